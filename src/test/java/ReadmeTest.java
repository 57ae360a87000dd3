import java.io.File;
import java.io.IOException;
import java.lang.reflect.InvocationTargetException;
import java.lang.reflect.Method;
import java.net.URL;
import java.net.URLClassLoader;
import java.nio.file.Files;
import java.nio.file.Path;
import java.util.ArrayList;
import java.util.List;
import java.util.Set;
import java.util.TreeSet;
import java.util.regex.Matcher;
import java.util.regex.Pattern;
import javax.tools.ToolProvider;

/**
 * README.md holds what it tells: its example, which has each call of promises 2 to 20, is compiled and answers as its
 * lines say ("call; // -> answer"); and it names every test. Run from the project's own folder.
 */
public final class ReadmeTest {
    private static final Checks CHECKS = new Checks("ReadmeTest");
    private static final Path README = Path.of("README.md");
    private static final Path TESTS = Path.of("src/test/java");
    private static final Path BUILD = Path.of("build/readme");
    private static final Pattern EXAMPLE = Pattern.compile("(?s)```java\n(.*?)```");
    private static final Pattern ANSWERED = Pattern.compile("(\\S.*?);\\s*// -> (\\S+)");

    public static void main(String[] args) throws IOException, ReflectiveOperationException {
        String readme = Files.readString(README);
        Matcher matcher = EXAMPLE.matcher(readme);
        CHECKS.isTrue("README.md has an example", matcher.find());
        String example = matcher.group(1);
        showsEveryCall(example);
        answersAsTold(example);
        namesEveryTest(readme);
        CHECKS.finish();
    }

    private static void showsEveryCall(String example) {
        for (Method method : publicMethods()) {
            CHECKS.isTrue("the example calls " + method.getName(), example.contains("shop." + method.getName() + "("));
        }
    }

    private static List<Method> publicMethods() {
        List<Method> methods = new ArrayList<>(List.of(ClauseShop.class.getMethods()));
        methods.removeIf(method -> method.getDeclaringClass() != ClauseShop.class);
        return methods;
    }

    private static void answersAsTold(String example) throws IOException, ReflectiveOperationException {
        List<String> calls = new ArrayList<>();
        List<String> wanted = new ArrayList<>();
        StringBuilder body = new StringBuilder();
        for (String line : example.split("\n")) {
            Matcher matcher = ANSWERED.matcher(line);
            if (matcher.lookingAt()) {
                calls.add(matcher.group(1));
                wanted.add(matcher.group(2));
                line = "told.add(String.valueOf(" + matcher.group(1) + "));";
                line += " due.add(String.valueOf(" + matcher.group(2) + "));";
            }
            body.append(line).append('\n');
        }
        List<String> told = new ArrayList<>();
        List<String> due = new ArrayList<>();
        run(body.toString(), told, due);
        for (int i = 0; i < calls.size(); i++) {
            String what = "README.md: " + calls.get(i) + ", which is told as " + wanted.get(i) + ",";
            CHECKS.equal(what, i < told.size() ? told.get(i) : "nothing", i < due.size() ? due.get(i) : wanted.get(i));
        }
        CHECKS.isTrue("the example tells its answers", !calls.isEmpty());
    }

    private static void run(String body, List<String> told, List<String> due)
            throws IOException, ReflectiveOperationException {
        Files.createDirectories(BUILD);
        Path source = BUILD.resolve("Readme.java");
        Files.writeString(source, "public final class Readme { public static void run(java.util.List<String> told, "
                + "java.util.List<String> due) {\n" + body + "} }\n");
        int failed = ToolProvider.getSystemJavaCompiler().run(null, null, null, "-cp",
                System.getProperty("java.class.path"), "-d", BUILD.toString(), source.toString());
        CHECKS.equal("errors of the compiler in the example", failed, 0);
        if (failed != 0) {
            return;
        }
        URL[] places = {BUILD.toUri().toURL()};
        try (URLClassLoader loader = new URLClassLoader(places, ReadmeTest.class.getClassLoader())) {
            loader.loadClass("Readme").getMethod("run", List.class, List.class).invoke(null, told, due);
        } catch (InvocationTargetException e) {
            CHECKS.equal("the example", e.getCause(), "no exception");
        }
    }

    private static void namesEveryTest(String readme) {
        Set<String> names = new TreeSet<>();
        File[] files = TESTS.toFile().listFiles();
        for (File file : files == null ? new File[0] : files) {
            if (file.getName().endsWith("Test.java")) {
                names.add(file.getName().replace(".java", ""));
            }
        }
        CHECKS.isTrue("there are tests", names.contains("ReadmeTest"));
        for (String name : names) {
            CHECKS.isTrue("README.md names " + name, readme.contains("`" + name + "`"));
        }
    }
}
