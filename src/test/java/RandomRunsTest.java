import java.lang.reflect.Method;
import java.util.ArrayList;
import java.util.List;
import java.util.Random;

/** Runs by fixed seeds, each call made to WallHands and to PlainWall; the answers must be alike. */
public final class RandomRunsTest {
    private static final int RUNS = 400, CALLS = 512;
    private static final int[] EDGES = {
        Integer.MIN_VALUE, -1000, -2, -1, 0, 1, 2, 3, 4, 5, 7, 8, 9, 15, 16, 19, 20, 59, 60, 61, 255, 256, Integer.MAX_VALUE};

    private final Random random;
    private final WallHands wall = new WallHands();
    private final PlainWall plain = new PlainWall();
    private final List<String> said = new ArrayList<>();
    private int calls;

    private RandomRunsTest(long seed) {
        random = new Random(seed);
    }

    /** Without arguments the runs of .ci/run; else the first run's number and how many. */
    public static void main(String[] args) throws Exception {
        int wrong = 0;
        int first = args.length > 0 ? Integer.parseInt(args[0]) : 0;
        int runs = args.length > 1 ? Integer.parseInt(args[1]) : RUNS;
        for (int run = first; run < first + runs && wrong < 5; run++) {
            String fault = new RandomRunsTest(run).run(run);
            if (fault != null) {
                wrong++;
                System.out.println("run " + run + ": " + fault);
            }
        }
        if (wrong != 0) System.exit(1);
    }

    private String run(int run) throws Exception {
        Method[] face = WallHands.class.getDeclaredMethods();
        List<Method> open = new ArrayList<>();
        for (Method method : face) {
            boolean shown = java.lang.reflect.Modifier.isPublic(method.getModifiers());
            if (shown && !method.getName().equals("digest")) open.add(method);
        }
        open.sort(java.util.Comparator.comparing(Method::getName));
        String fault = run % 8 == 7 ? null : tellStory();
        while (fault == null && calls < CALLS - 1) {
            Method method = open.get(random.nextInt(open.size()));
            // now and then a text is wiped, but seldom, so that walls stay long enough to be looked at
            boolean spoils = method.getName().equals("wipe") || method.getName().equals("type") || method.getName().equals("undo");
            if (spoils && random.nextInt(8) != 0) continue;
            fault = make(method.getName(), argumentsFor(method));
            // a story takes 44 + 23 bytes and 27 other calls at most; so the 512th call is digest
            if (fault == null && calls < CALLS - 100 && random.nextInt(60) == 0) fault = tellStory();
        }
        return fault != null ? fault : make("digest");
    }

    private int[] argumentsFor(Method method) {
        int[] arguments = new int[method.getParameterCount()];
        for (int i = 0; i < arguments.length; i++) {
            arguments[i] = random.nextInt(25) == 0 ? EDGES[random.nextInt(EDGES.length)]
                    : random.nextInt(likely(method.getName(), i));
        }
        if (method.getName().equals("ages")) arguments[0] = random.nextInt();
        return arguments;
    }

    private static int likely(String name, int i) {
        switch (name + i) {
            case "type1": return 256;
            case "jump0": return 6;
            case "frost1": return 16;
            case "stone0": case "lift0": case "at1": case "seen1": return 5;
            case "stone1": case "lift1": case "at2": case "seen2": case "gapping1": case "column1": return 8;
            case "mine0": case "gapping2": return 8;
            case "hand0": case "firm0": case "relay0": case "was0": case "ask0": return 5;
            case "seen3": return 9;
            case "count0": return 9;
            case "luck0": return 17;
            case "ages1": return 7;
            case "mend1": return 3;
            case "frost0": case "at0": case "gapping0": case "column0": case "falls0": case "mend0": case "seen0": case "write0": return 20;
            case "sheet0": case "lose0": case "put0": case "get0": case "copy0": case "copy2": case "write1": case "read0": return 4;
            case "sheet1": case "put1": case "get1": return 3;
            case "sheet2": return 16;
            case "put2": case "get2": return 12;
            case "put3": return 20;
            case "copy1": case "copy3": case "copy4": return 8;
            default: return 2;
        }
    }

    /** Makes both walls anew, mostly well formed ones, with frosts, gappings and what was seen. */
    private String tellStory() throws Exception {
        String fault = make("wipe", 0);
        if (fault == null) fault = make("wipe", 1);
        int columns = 1 + random.nextInt(8), courses = 1 + random.nextInt(5), hands = 1 + random.nextInt(8);
        int letters = random.nextInt(4) == 0 ? 8 : Math.min(8, hands + random.nextInt(2));
        int fullCourses = random.nextInt(2);
        for (int i = 0; i < courses && fault == null; i++) {
            int holes = 1 + random.nextInt(12);
            if (i > 0) fault = make("type", 0, ';');
            for (int j = 0; j < columns && fault == null; j++) {
                fault = make("type", 0, random.nextInt(holes) == 0 && i >= fullCourses ? '.' : 'a' + random.nextInt(letters));
            }
        }
        for (int i = 0; i < hands && fault == null; i++) {
            if (i > 0) fault = make("type", 1, ';');
            if (fault == null) fault = make("type", 1, "ptls".charAt(random.nextInt(4)));
            if (fault == null) fault = make("type", 1, '1' + random.nextInt(9));
        }
        if (fault == null && random.nextInt(3) == 0) fault = readSome();
        int frosts = random.nextInt(4), gappings = random.nextInt(4);
        for (int i = 0; i < frosts && fault == null; i++) {
            fault = make("frost", random.nextInt(4) * 5, 1 + random.nextInt(random.nextInt(3) == 0 ? 15 : 9));
        }
        for (int i = 0; i < gappings && fault == null; i++) {
            fault = make("gapping", random.nextInt(20), random.nextInt(columns), random.nextInt(hands));
        }
        return fault != null ? fault : seeSome(columns, courses);
    }

    /** Fills a sheet, mostly by frosts that may be, and reads it; frosts told before may go first. */
    private String readSome() throws Exception {
        String fault = null;
        while (fault == null && plain.count(4) > 0 && random.nextInt(4) != 0) fault = make("back", 0);
        int s = random.nextInt(4), form = random.nextInt(3), n = random.nextInt(9);
        if (fault == null) fault = make("sheet", s, form, n);
        for (int i = 0; i < n && fault == null; i++) {
            int most = random.nextInt(9) == 0 ? 25 : 15;
            fault = make("put", s, form, i, i % 2 == 0 ? random.nextInt(most + 5) : 1 + random.nextInt(most));
        }
        return fault != null ? fault : make("read", s);
    }

    /** Sees what is so, for the most part, so that not all comes out empty. */
    private String seeSome(int columns, int courses) throws Exception {
        String fault = null;
        int n = random.nextInt(4);
        for (int i = 0; i < n && fault == null; i++) {
            int year = random.nextInt(20), course = random.nextInt(courses), column = random.nextInt(columns);
            int hand = plain.at(year, course, column, 0);
            fault = make("seen", year, course, column, hand < 0 ? 8 : hand);
        }
        return fault;
    }

    /** Makes a call to both; what is wrong, or null. */
    private String make(String name, int... arguments) throws Exception {
        calls++;
        Class<?>[] types = new Class<?>[arguments.length];
        Object[] values = new Object[arguments.length];
        for (int i = 0; i < arguments.length; i++) {
            types[i] = int.class;
            values[i] = arguments[i];
        }
        String call = name + java.util.Arrays.toString(arguments);
        said.add(call);
        long due = ((Number) PlainWall.class.getMethod(name, types).invoke(plain, values)).longValue();
        long got;
        try {
            got = ((Number) WallHands.class.getMethod(name, types).invoke(wall, values)).longValue();
        } catch (java.lang.reflect.InvocationTargetException e) {
            return "call " + calls + ", " + call + " threw " + e.getCause() + "; " + said;
        }
        return got == due ? null : "call " + calls + ", " + call + " answered " + got + ", due is " + due + "; " + said;
    }
}
