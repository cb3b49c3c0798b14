import java.lang.reflect.InvocationTargetException;
import java.lang.reflect.Method;
import java.util.ArrayList;
import java.util.Arrays;
import java.util.Comparator;
import java.util.List;
import java.util.function.Consumer;

/** What the tests of edges share. None of their objects is used for more than 512 calls. */
final class Edges {
    static final int NONE = -1, BAD = -2, NOT = -3, FULL = -4;
    static final int NULL = -11, INDEX = -12, CAST = -13, STORE = -14, SIZE = -15;
    static final int LEAST = Integer.MIN_VALUE, MOST = Integer.MAX_VALUE;
    static final String FULL_WALL = "aaaaaaaa;bbbbbbbb;cccccccc;dddddddd;eeeeeeeh";
    static final String FULL_HANDS = "p1;t2;l3;s4;p5;t6;l7;s9";

    private static String edge = "";
    private static int dues = 0, wrong = 0;

    private Edges() {
    }

    /** A call of an object. */
    interface Call {
        long on(WallHands x);
    }

    /** A call of an object with a number. */
    interface CallOf {
        long on(WallHands x, int v);
    }

    // ---- running

    /** Every test of a class, by its name; ends with 1 if an answer is not due, or if a test asks nothing. */
    static void run(Class<?> tests) throws Exception {
        for (Method test : testsOf(tests)) {
            Edge named = test.getAnnotation(Edge.class);
            edge = test.getName() + " (promise " + Arrays.toString(named.promise()) + ", " + Arrays.toString(named.sentence()) + ")";
            dues = 0;
            try {
                test.invoke(null);
            } catch (InvocationTargetException e) {
                due("threw " + e.getCause(), 1, 0);
            }
            if (dues == 0) due("what the test asks", 0, 1);
        }
        if (wrong != 0) System.exit(1);
    }

    static List<Method> testsOf(Class<?> tests) {
        List<Method> found = new ArrayList<>();
        for (Method method : tests.getDeclaredMethods()) {
            if (method.isAnnotationPresent(Edge.class)) found.add(method);
        }
        found.sort(Comparator.comparing(Method::getName));
        return found;
    }

    static void due(String what, long got, long want) {
        dues++;
        if (got != want) {
            wrong++;
            System.out.println(edge + ": " + what + " answered " + got + ", due is " + want);
        }
    }

    // ---- walls

    static WallHands wall(String stones, String hands) {
        WallHands x = new WallHands();
        tell(x, 0, stones);
        tell(x, 1, hands);
        return x;
    }

    static void tell(WallHands x, int text, String bytes) {
        for (char b : bytes.toCharArray()) x.type(text, b);
    }

    static void fill(WallHands x, int s, int form, int... items) {
        x.sheet(s, form, items.length);
        for (int i = 0; i < items.length; i++) x.put(s, form, i, items[i]);
    }

    /** A wall of so many courses and columns that has a byte everywhere. */
    static StringBuilder even(char b, int courses, int columns) {
        StringBuilder text = new StringBuilder();
        for (int c = 0; c < courses; c++) {
            if (c > 0) text.append(';');
            for (int k = 0; k < columns; k++) text.append(b);
        }
        return text;
    }

    /** Where the byte of a place stands in the text of a wall. */
    static int in(int columns, int course, int column) {
        return course * (columns + 1) + column;
    }

    /** All is told, and nothing is full; sheet 3 is lost; the latest finding is a CAST. */
    static void someOfAll(WallHands x) {
        tell(x, 0, "aab;bab;.c.");
        tell(x, 1, "p4;t6;l3");
        x.frost(1, 6);
        x.frost(7, 4);
        x.frost(7, 5);
        x.gapping(9, 1, 2);
        x.gapping(3, 0, 0);
        x.seen(1, 0, 2, 1);
        x.seen(19, 2, 1, 8);
        x.jump(3);
        fill(x, 0, 0, 5, 4, -7, 1);
        fill(x, 1, 1, 300, 8, 9);
        fill(x, 2, 2, 1, 70000, 2, 3, 4);
        x.get(0, 1, 0);
    }

    /** Both texts, frosts, gappings and what was seen are full. */
    static void allFull(WallHands x) {
        tell(x, 0, FULL_WALL);
        tell(x, 1, FULL_HANDS);
        for (int i = 0; i < 6; i++) {
            x.frost(3 * i, i + 1);
            x.gapping(3 * i + 1, i, i);
        }
        for (int i = 0; i < 8; i++) x.seen(i, 0, i, 0);
        fill(x, 0, 0, 1, 2, 3, 4);
    }

    static void nothing(WallHands x) {
        // a new object is looked at as it is
    }

    static WallHands made(Consumer<WallHands> story) {
        WallHands x = new WallHands();
        story.accept(x);
        return x;
    }

    // ---- refusals

    /** A number that is taken from least to most, and BAD beyond; what is refused leaves all as it was. */
    static void range(String what, int least, int most, CallOf call) {
        range(what, least, most, call, BAD);
    }

    static void range(String what, int least, int most, CallOf call, long bad) {
        for (int v = least; v <= most; v++) {
            long got = call.on(made(Edges::someOfAll), v);
            due(what + " " + v + " is refused", got == bad ? 1 : 0, 0);
        }
        int[] beyond = {LEAST, LEAST + least, least - 256, least - 1, most + 1, most + 2, least + 256, least + 65536, 1 << 30, MOST};
        for (int v : beyond) {
            if (v >= least && v <= most) continue;
            leaves(what + " " + v, Edges::someOfAll, x -> call.on(x, v), bad, 0);
            due(what + " " + v + " at first", call.on(new WallHands(), v), bad);
            due(what + " " + v + " of all full", call.on(made(Edges::allFull), v), bad);
        }
    }

    /** A hand that must be told: none of no hands, three of three, eight of eight; another one is BAD. */
    static void rangeOfHandsTold(String what, CallOf call) {
        int[] beyond = {LEAST, -256, -1, 8, 9, 256, 65536, MOST};
        for (int hand = 0; hand < 8; hand++) {
            int h = hand;
            due(what + " " + h + " of all full is refused", call.on(made(Edges::allFull), h) == BAD ? 1 : 0, 0);
            refuses(what + " " + h + " of none", Edges::nothing, x -> call.on(x, h), BAD);
            if (h < 3) due(what + " " + h + " of three is refused", call.on(made(Edges::someOfAll), h) == BAD ? 1 : 0, 0);
            if (h >= 3) refuses(what + " " + h + " of three", Edges::someOfAll, x -> call.on(x, h), BAD);
        }
        for (int hand : beyond) {
            refuses(what + " " + hand + " of all full", Edges::allFull, x -> call.on(x, hand), BAD);
            refuses(what + " " + hand + " of three", Edges::someOfAll, x -> call.on(x, hand), BAD);
        }
    }

    /** A refusal by NOT, FULL or BAD, or a finding: it changes nothing but, if it is one, count() 8. */
    static void refuses(String what, Consumer<WallHands> story, Call call, int want) {
        leaves(what, story, call, want, want <= NULL ? -10 - want : 0);
    }

    /** A call that answers what is due and changes nothing (but count() 8, if it finds something). */
    static void leaves(String what, Consumer<WallHands> story, Call call, long want, int finding) {
        for (int look = 0; look < LOOKS; look++) {
            WallHands called = made(story), other = made(story);
            int latest = finding == 0 ? other.count(8) : finding;
            due(what, call.on(called), want);
            due(what + ", then count(8)", called.count(8), latest);
            List<Long> got = look(called, look), before = look(other, look);
            due(what + " changed something (look " + look + ")", got.equals(before) ? 0 : 1, 0);
        }
    }

    /** A call that only asks changes nothing, be there something of all, or all be full. */
    static void onlyAsks(String what, Call call) {
        leaves(what + " of some", Edges::someOfAll, call, call.on(made(Edges::someOfAll)), 0);
        leaves(what + " of all full", Edges::allFull, call, call.on(made(Edges::allFull)), 0);
        leaves(what + " of nothing", Edges::nothing, call, call.on(new WallHands()), 0);
    }

    /** What is told shows at once, also where all was asked and answered before. */
    static void showsAtOnce(String what, Consumer<WallHands> story, Call call) {
        for (int look = 0; look < LOOKS; look++) {
            WallHands asked = made(story), other = made(story);
            asked.digest();
            due(what, call.on(asked), call.on(other));
            List<Long> got = look(asked, look), want = look(other, look);
            due(what + " does not show at once (look " + look + ")", got.equals(want) ? 0 : 1, 0);
        }
    }

    private static final int LOOKS = 5;

    /** One way to look at all that an object holds; it may be used up by that. */
    private static List<Long> look(WallHands x, int way) {
        List<Long> seen = new ArrayList<>();
        if (way == 0) {
            for (int what = 0; what < 8; what++) seen.add((long) x.count(what));
            seen.add(x.digest());
            seen.add((long) x.jump(1));
        } else if (way == 1) {
            lookAtFrosts(x, seen);
        } else if (way == 2) {
            lookAtTexts(x, seen);
        } else if (way == 3) {
            for (int s = 0; s < 4; s++) lookAtSheet(x, s, seen);
        } else {
            lookAtSeen(x, seen);
        }
        return seen;
    }

    private static void lookAtFrosts(WallHands x, List<Long> seen) {
        int left = 0;
        while (left >= 0) {
            for (int year = 0; year < 20; year++) seen.add((long) x.falls(year));
            left = x.back(0);
            seen.add((long) left);
        }
        left = 0;
        while (left >= 0) {
            for (int hand = 0; hand < 8; hand++) seen.add((long) x.mine(hand));
            for (int column = 0; column < 8; column++) seen.add((long) x.column(19, column, 0));
            left = x.back(1);
            seen.add((long) left);
        }
    }

    private static void lookAtTexts(WallHands x, List<Long> seen) {
        for (int text = 0; text < 2; text++) {
            int left = 0;
            while (left >= 0) {
                seen.add((long) x.fault(text));
                seen.add((long) x.count(text));
                left = x.undo(text);
                seen.add((long) left);
            }
        }
    }

    private static void lookAtSheet(WallHands x, int s, List<Long> seen) {
        int form = 0;
        for (int tried = 0; tried < 3; tried++) {
            int item = x.get(s, tried, 0);
            seen.add((long) item);
            // where there is an item the latest finding is an older one, which may differ
            if (item == LEAST) seen.add((long) x.count(8));
            if (item != LEAST || x.count(8) == 2) form = tried;
        }
        int item = 0;
        for (int i = 0; i <= 60 && item != LEAST; i++) {
            item = x.get(s, form, i);
            seen.add((long) item);
        }
        seen.add((long) x.lose(s));
    }

    private static void lookAtSeen(WallHands x, List<Long> seen) {
        seen.add((long) x.never());
        for (int hand = 0; hand < 8; hand++) {
            seen.add((long) x.was(hand, 0));
            seen.add((long) x.was(hand, 1));
            seen.add((long) x.ask(hand));
        }
        seen.add((long) x.forget());
        seen.add((long) x.never());
    }
}
