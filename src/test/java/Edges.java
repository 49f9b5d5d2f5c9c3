import java.util.HashSet;
import java.util.Map;
import java.util.Set;
import java.util.function.IntConsumer;
import java.util.NoSuchElementException;

/** Sentences of the document that name a boundary case, each with the test that is its own. */
final class Edges {
    private static final Map<String, String> DOCUMENT = Document.parts();
    private static final Set<String> TOLD = new HashSet<>();
    private static final Set<String> PARTS = new HashSet<>();

    private Edges() {
    }

    /** A sentence ahead of the terms. */
    static void intro(int promise, String sentence, Runnable test) {
        edge("What it is", "Promise " + promise + ", by the first lines, \"" + sentence + "\"", sentence, test);
    }

    /** A sentence of the terms, and the promise whose call shows whether it holds. */
    static void terms(int number, int promise, String sentence, Runnable test) {
        edge("Terms " + number, "Promise " + promise + ", by Terms " + number + ", \"" + sentence + "\"", sentence,
            test);
    }

    static void promise(int number, String sentence, Runnable test) {
        edge("Promise " + number, "Promise " + number + ", \"" + sentence + "\"", sentence, test);
    }

    private static void edge(String part, String name, String sentence, Runnable test) {
        Check.about(name + ": ");
        Check.same("stands there", true, DOCUMENT.getOrDefault(part, "").contains(sentence));
        Check.same("has one test", true, TOLD.add(part + sentence));
        PARTS.add(part);
        Check.tests(test);
        Check.about(name + ", of an object that had another city: ");
        Check.useAgain(true);
        Check.tests(test);
        Check.useAgain(false);
        Check.about("");
    }

    /** That each part of the document has an edge at least. */
    static void end() {
        for (String part : DOCUMENT.keySet()) {
            Check.same("edges of " + part, true, PARTS.contains(part));
        }
        Check.same("parts of the document", 1 + 4 + 42, DOCUMENT.size());
        System.out.println(TOLD.size() + " sentences");
        Check.end();
    }

    /** That a call throws NoSuchElementException for each of some numbers, and for the least int. */
    static void noSuch(String what, IntConsumer call, int... wrong) {
        thrown(what, NoSuchElementException.class, call, wrong);
    }

    static void illegal(String what, IntConsumer call, int... wrong) {
        thrown(what, IllegalArgumentException.class, call, wrong);
    }

    private static void thrown(String what, Class<? extends RuntimeException> due, IntConsumer call, int[] wrong) {
        for (int number : wrong) {
            Check.isThrown(what + " " + number, due, () -> call.accept(number));
        }
        Check.isThrown(what + " of the least int", due, () -> call.accept(Integer.MIN_VALUE));
    }
}
