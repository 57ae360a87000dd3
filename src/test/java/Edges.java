import java.io.IOException;
import java.util.Set;
import java.util.TreeSet;
import java.util.function.Consumer;
import java.util.function.Function;
import java.util.function.ObjIntConsumer;
import java.util.function.Supplier;

/** The checks of one sentence of the document after the other, and in the end which sentences had none. */
final class Edges {
    static final String CHANGES_NOTHING = "A method that throws an exception changes nothing.";
    static final String FIRST_IS_THROWN = "If several exceptions apply, the one that is documented first is thrown.";

    /** Just beside the range, and what a shift or a narrower type would take for something within it. */
    static final int[] NO_CLAUSES = {-1, 10, 32, 256, 65536, Integer.MIN_VALUE, Integer.MAX_VALUE};
    static final int[] NO_SIDES = {-1, 2, 256, 65536, Integer.MIN_VALUE, Integer.MAX_VALUE};

    private final Checks checks = new Checks("EdgesTest");
    private final Set<String> checked = new TreeSet<>();
    private int promise;
    private String words;

    /** What is checked from here on is what this sentence asks of this promise. */
    void sentence(int promise, String words) {
        this.promise = promise;
        this.words = words;
    }

    void equal(String what, Object got, Object want) {
        checked.add(key(promise, words));
        checks.equal("promise " + promise + ", \"" + words + "\": " + what, got, want);
    }

    void argument(String call, Supplier<ClauseShop> start, Consumer<ClauseShop> refused) {
        thrown(call, IllegalArgumentException.class, start, refused);
    }

    void state(String call, Supplier<ClauseShop> start, Consumer<ClauseShop> refused) {
        thrown(call, IllegalStateException.class, start, refused);
    }

    void index(String call, Supplier<ClauseShop> start, Consumer<ClauseShop> refused) {
        thrown(call, IndexOutOfBoundsException.class, start, refused);
    }

    void arguments(String call, int[] wrong, Supplier<ClauseShop> start, ObjIntConsumer<ClauseShop> refused) {
        for (int one : wrong) {
            argument(call + " with " + one, start, shop -> refused.accept(shop, one));
        }
    }

    void indices(String call, int[] wrong, Supplier<ClauseShop> start, ObjIntConsumer<ClauseShop> refused) {
        for (int one : wrong) {
            index(call + " with " + one, start, shop -> refused.accept(shop, one));
        }
    }

    /** Each refused call is seen to change nothing, too: a second shop that goes without it has to be as the first. */
    private void thrown(String call, Class<?> want, Supplier<ClauseShop> start, Consumer<ClauseShop> refused) {
        for (Function<ClauseShop, String> probe : Probes.ALL) {
            ClauseShop shop = start.get();
            equal(call + " throws", thrownBy(shop, refused), want);
            same("after " + call, probe.apply(shop), probe.apply(start.get()));
        }
    }

    /** Tells of long texts only what comes from the first difference on. */
    private void same(String what, String got, String want) {
        int most = Math.min(got.length(), want.length());
        int start = 0;
        while (start < most && got.charAt(start) == want.charAt(start)) {
            start++;
        }
        equal(what, excerpt(got, start), excerpt(want, start));
    }

    private static String excerpt(String text, int start) {
        return ".." + text.substring(start, Math.min(text.length(), start + 80));
    }

    private static Object thrownBy(ClauseShop shop, Consumer<ClauseShop> call) {
        try {
            call.accept(shop);
            return "nothing";
        } catch (RuntimeException e) {
            return Checks.kindOf(e);
        }
    }

    private static String key(int section, String words) {
        return section + " " + words;
    }

    /** A sentence of a promise is checked for that promise; one of the terms for any promise. */
    void compareWithDocument() throws IOException {
        if (!Document.isThere()) {
            System.out.println("EdgesTest: the document is not there to be compared with");
            return;
        }
        Document document = new Document();
        Set<String> wanted = new TreeSet<>();
        Set<String> known = new TreeSet<>();
        for (int number = 1; number <= Document.PROMISES; number++) {
            for (String sentence : document.of(number)) {
                wanted.add(key(number, sentence));
            }
            for (String sentence : document.of(Document.TERMS)) {
                known.add(key(number, sentence));
            }
        }
        known.addAll(wanted);
        for (String one : checked) {
            checks.isTrue("the document has, at promise " + one, known.contains(one));
        }
        for (String one : wanted) {
            checks.isTrue("a check for promise " + one, checked.contains(one));
        }
        for (String sentence : document.of(Document.TERMS)) {
            checks.isTrue("a check for the term: " + sentence, isCheckedAnywhere(sentence));
        }
    }

    private boolean isCheckedAnywhere(String sentence) {
        for (int number = 1; number <= Document.PROMISES; number++) {
            if (checked.contains(key(number, sentence))) {
                return true;
            }
        }
        return false;
    }

    void finish() {
        checks.finish();
    }
}
