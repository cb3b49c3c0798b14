import java.lang.reflect.Method;
import java.nio.file.Files;
import java.nio.file.Path;
import java.util.BitSet;

/** Every test of an edge names words that stand in the document, and no rule of the document is left unnamed. */
public final class EdgesNamedTest {
    private static final Class<?>[] TESTS = {EdgesOfTextsTest.class, EdgesOfTellingTest.class, EdgesOfYearsTest.class,
        EdgesOfPlansTest.class, EdgesOfSeenTest.class, EdgesOfSheetsTest.class};
    private static final int PROMISES = 37;
    private static int wrong = 0;

    public static void main(String[] args) throws Exception {
        lookAtPromises();
        String shared = System.getenv().getOrDefault("SHARED", "../shared");
        Path path = Path.of(shared, "DOC.md");
        if (Files.exists(path)) lookAtSentences(rulesOf(Files.readString(path)));
        if (wrong != 0) System.exit(1);
    }

    private static void say(String what) {
        wrong++;
        System.out.println(what);
    }

    private static void lookAtPromises() {
        BitSet named = new BitSet();
        for (Class<?> tests : TESTS) {
            for (Method test : Edges.testsOf(tests)) {
                for (int promise : test.getAnnotation(Edge.class).promise()) named.set(promise);
            }
        }
        for (int promise = 1; promise <= PROMISES; promise++) {
            if (!named.get(promise)) say("no test of an edge names promise " + promise);
        }
        if (named.cardinality() != PROMISES) say("a test names a promise that is none: " + named);
    }

    /** The document without its headings, its face, and what only says where things stand; spaces are one. */
    private static String rulesOf(String document) {
        StringBuilder rules = new StringBuilder();
        boolean face = false;
        for (String line : document.substring(0, document.indexOf("## Not promised")).split("\n")) {
            if (line.equals("```java")) face = true;
            boolean fence = line.startsWith("```");
            if (!face && !fence && !line.startsWith("#") && !line.startsWith("Ahead of the calls")) {
                rules.append(line.replaceAll("^`[^`]*`: ", "").replaceAll("^======== \\d ", "")).append('\n');
            }
            if (line.equals("```")) face = false;
        }
        return rules.toString().replaceAll("\\s+", " ");
    }

    private static void lookAtSentences(String rules) {
        BitSet named = new BitSet();
        for (Class<?> tests : TESTS) {
            for (Method test : Edges.testsOf(tests)) {
                for (String sentence : test.getAnnotation(Edge.class).sentence()) {
                    int from = rules.indexOf(sentence);
                    if (from < 0) say(test.getName() + " names words that do not stand in the document: " + sentence);
                    for (; from >= 0; from = rules.indexOf(sentence, from + 1)) named.set(from, from + sentence.length());
                }
            }
        }
        int from = rules.indexOf("COURSES, 5 at most");
        while (from >= 0 && from < rules.length()) {
            int next = named.nextSetBit(from);
            String left = rules.substring(from, next < 0 ? rules.length() : next);
            // between words that are named only marks may be left
            if (left.replaceAll("[^A-Za-z]", "").length() > 0) say("no test names: " + left);
            from = next < 0 ? -1 : named.nextClearBit(next);
        }
    }
}
