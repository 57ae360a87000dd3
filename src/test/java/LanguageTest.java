import java.io.IOException;
import java.lang.reflect.Constructor;
import java.lang.reflect.Field;
import java.lang.reflect.Method;
import java.lang.reflect.Modifier;
import java.nio.file.Files;
import java.nio.file.Path;
import java.util.ArrayList;
import java.util.List;
import java.util.regex.Matcher;
import java.util.regex.Pattern;

/** What of ../shared/LANGUAGE.md can be read off the text of the program; run from the project's own folder. */
public final class LanguageTest {
    private static final Checks CHECKS = new Checks("LanguageTest");
    private static final Path SOURCE = Path.of("src/main/java/ClauseShop.java");
    /** Of rule 11. */
    private static final int LONGEST_METHOD = 60, MOST_PARAMETERS = 7, MOST_CLASSES = 12, MOST_FIELDS = 20;

    private static final String[] RULED_OUT = {
        "->", "::", "\\bpackage\\b", "\\bsynchronized\\b", "\\bassert\\b", "\\bfinally\\b",
        "\\bSystem\\.(?!arraycopy\\b)", "\\bThread\\b", "\\bRandom\\b", "\\bException\\b", "\\bThrowable\\b",
        "\\bNullPointerException\\b", "\\bClassCastException\\b", "\\bNegativeArraySizeException\\b",
        "\\bArrayStoreException\\b", "\\bArrayIndexOutOfBoundsException\\b", "\\bhashCode\\b",
        "\\bObject\\b", "Exact\\b", "\\bstatic\\s*\\{", "\\bprotected\\b", "\"\"\\s*\\+", "\\+=?\\s*\"\"",
    };
    private static final List<String> IMPORTED = List.of("java.util.ArrayList", "java.util.List", "java.util.Arrays",
            "java.util.Iterator", "java.util.NoSuchElementException");
    private static final List<String> THROWN = List.of("IllegalStateException", "IllegalArgumentException",
            "IndexOutOfBoundsException", "ArithmeticException", "UnsupportedOperationException",
            "NoSuchElementException", "RuntimeException");

    public static void main(String[] args) throws IOException {
        String code = bare(Files.readString(SOURCE));
        for (String ruledOut : RULED_OUT) {
            CHECKS.isTrue("nothing like " + ruledOut, !Pattern.compile(ruledOut).matcher(code).find());
        }
        imports(code);
        thrown(code);
        staticFields(code);
        methodLengths(code);
        sizes();
        CHECKS.finish();
    }

    /** The code without comments, and with no signs in its texts. */
    private static String bare(String source) {
        return source.replaceAll("(?s)/\\*.*?\\*/", "").replaceAll("//[^\n]*", "").replaceAll("\"[^\"\n]*\"", "\"\"");
    }

    private static void imports(String code) {
        Matcher matcher = Pattern.compile("\\bimport\\s+([^;]+);").matcher(code);
        while (matcher.find()) {
            CHECKS.isTrue("import of " + matcher.group(1), IMPORTED.contains(matcher.group(1)));
        }
    }

    private static void thrown(String code) {
        Matcher matcher = Pattern.compile("\\bthrow\\b\\s*(new\\s+)?(\\w+)").matcher(code);
        while (matcher.find()) {
            boolean isNew = matcher.group(1) != null;
            CHECKS.isTrue("throw of " + matcher.group(2), isNew && THROWN.contains(matcher.group(2)));
        }
    }

    private static void staticFields(String code) {
        Pattern notFinal = Pattern.compile("\\bstatic\\s+(?!final\\b|class\\b)[\\w\\[\\]<>]+\\s+\\w+\\s*[=;]");
        CHECKS.isTrue("static fields are final", !notFinal.matcher(code).find());
    }

    private static void methodLengths(String code) {
        String[] lines = code.split("\n");
        int start = -1;
        String end = "";
        for (int i = 0; i < lines.length; i++) {
            String indent = lines[i].substring(0, lines[i].length() - lines[i].stripLeading().length());
            if (start < 0 && lines[i].matches("\\s+[^=;]*\\(.*") && !lines[i].contains(";")) {
                start = i;
                end = indent + "}";
            } else if (start >= 0 && lines[i].equals(end)) {
                CHECKS.isTrue("method at line of code " + start + " is short", i - start < LONGEST_METHOD);
                start = -1;
            }
        }
        CHECKS.equal("every method has its end", start, -1);
    }

    private static void sizes() {
        List<Class<?>> classes = new ArrayList<>(List.of(ClauseShop.class.getDeclaredClasses()));
        classes.add(ClauseShop.class);
        CHECKS.isTrue("classes are few", classes.size() <= MOST_CLASSES);
        for (Class<?> one : classes) {
            int fields = 0;
            for (Field field : one.getDeclaredFields()) {
                fields += Modifier.isStatic(field.getModifiers()) ? 0 : 1;
            }
            CHECKS.isTrue("fields of " + one + " are few", fields <= MOST_FIELDS);
            for (Method method : one.getDeclaredMethods()) {
                CHECKS.isTrue("parameters of " + method + " are few", method.getParameterCount() <= MOST_PARAMETERS);
            }
            for (Constructor<?> constructor : one.getDeclaredConstructors()) {
                boolean few = constructor.getParameterCount() <= MOST_PARAMETERS;
                CHECKS.isTrue("parameters of " + constructor + " are few", few);
            }
        }
    }
}
