/** Edges of promises 13 to 18: what stands behind years, how it holds, what falls, where sheep get through. */
public final class EdgesOfYearsTest {
    private static final int NONE = Edges.NONE, BAD = Edges.BAD;
    private static final String HOLDS = "It HOLDS by how STRONG its HAND is, and by 1 more for each NEIGHBOUR of that HAND";

    public static void main(String[] args) throws Exception {
        Edges.run(EdgesOfYearsTest.class);
    }

    private static void due(String what, long got, long want) {
        Edges.due(what, got, want);
    }

    private static WallHands wall(String stones, String hands) {
        return Edges.wall(stones, hands);
    }

    private static boolean beside(int course, int column, int otherCourse, int otherColumn) {
        return Math.abs(course - otherCourse) + Math.abs(column - otherColumn) == 1;
    }

    // ---- promise 13: which calls are taken

    @Edge(promise = 13, sentence = {"The HAND (what = 0), by how much it HOLDS (1), of the STONE at a COURSE (0 to 4) and a COLUMN (0 to 7); NONE. BAD.",
        "YEARS are 0 to 19."})
    static void atOfEveryYearAndPlace() {
        for (int what = 0; what < 2; what++) {
            int w = what;
            Edges.range("at, year", 0, 19, (x, v) -> x.at(v, 0, 0, w));
            Edges.range("at, course", 0, 4, (x, v) -> x.at(0, v, 0, w));
            Edges.range("at, column", 0, 7, (x, v) -> x.at(0, 0, v, w));
        }
        Edges.range("at, what", 0, 1, (x, v) -> x.at(0, 0, 0, v));
        WallHands x = wall("abcdefgh;bcdefgha;cdefghab;defghabc;efghabcd", "");
        for (int course = 0; course < 5; course++) {
            for (int column = 0; column < 8; column++) {
                due("at " + course + " " + column, x.at(0, course, column, 0), (course + column) % 8);
                due("at " + course + " " + column, x.at(19, course, column, 0), (course + column) % 8);
            }
        }
    }

    @Edge(promise = 13, sentence = {"Behind a YEAR: the HAND of the STONE at a COURSE and a COLUMN (NONE: there is none)", "by how much it HOLDS (NONE)"})
    static void atOfNone() {
        WallHands x = wall("a.;..", "p1");
        int[][] empty = {{0, 1}, {1, 0}, {1, 1}, {0, 2}, {2, 0}, {4, 7}, {0, 7}, {4, 0}};
        for (int[] place : empty) {
            due("hand of none", x.at(0, place[0], place[1], 0), NONE);
            due("hold of none", x.at(19, place[0], place[1], 1), NONE);
        }
        due("of no wall: hand", new WallHands().at(0, 0, 0, 0), NONE);
        due("of no wall: hold", new WallHands().at(19, 4, 7, 1), NONE);
    }

    // ---- promise 13: borne

    @Edge(promise = {13, 15}, sentence = "A STONE is BORNE, if it is in COURSE 0, or one is right below it")
    static void borneInCourse0AndOnAnother() {
        for (int column = 0; column < 8; column++) {
            StringBuilder text = Edges.even('.', 5, 8);
            for (int course = 0; course < 5; course++) {
                text.setCharAt(Edges.in(8, course, column), 'a');
                WallHands x = wall(text.toString(), "p1");
                due("a column of " + (course + 1) + " at " + column, x.mine(0), course + 1);
                due("falls", x.falls(0), 0);
            }
            StringBuilder hanging = Edges.even('.', 5, 8);
            hanging.setCharAt(Edges.in(8, 2, column), 'a');
            due("one that hangs in course 2", wall(hanging.toString(), "p1").falls(0), 1);
        }
        due("one column: on nothing", wall(".;a", "p1").falls(0), 1);
        due("one column: two above", wall("a;.;a", "p1").falls(0), 1);
    }

    @Edge(promise = {13, 15}, sentence = "or two are in the COURSE below it, one to the left of that place and one to the right")
    static void borneByTwoLeftAndRight() {
        for (int course = 1; course < 5; course++) {
            for (int column = 0; column < 8; column++) {
                StringBuilder text = Edges.even('.', 5, 8);
                for (int c = 0; c < course; c++) for (int k = 0; k < 8; k++) text.setCharAt(Edges.in(8, c, k), 'b');
                text.setCharAt(Edges.in(8, course, column), 'a');
                String of = "the one at " + course + " " + column;
                // at a rim one of the two sides has no place, whatever stands at the other rim
                text.setCharAt(Edges.in(8, course - 1, column), '.');
                boolean rim = column == 0 || column == 7;
                due(of + " by two beside", wall(text.toString(), "").mine(0), rim ? 0 : 1);
                if (rim) continue;
                text.setCharAt(Edges.in(8, course - 1, column - 1), '.');
                due(of + " by one to the right", wall(text.toString(), "").mine(0), 0);
                text.setCharAt(Edges.in(8, course - 1, column - 1), 'b');
                text.setCharAt(Edges.in(8, course - 1, column + 1), '.');
                due(of + " by one to the left", wall(text.toString(), "").mine(0), 0);
            }
        }
        due("two further away", wall("a...a;..b..", "").mine(1), 0);
        due("two on one side", wall("aa..;..b.", "").mine(1), 0);
        due("two columns", wall(".a;b.", "").mine(1), 0);
        due("two columns, the other way", wall("a.;.b", "").mine(1), 0);
    }

    // ---- promise 13: holds

    @Edge(promise = 13, sentence = {"Its NEIGHBOURS are those beside it in its COURSE, right below and right above it.", HOLDS})
    static void neighboursOfEveryPlace() {
        for (int place = 0; place < 40; place++) {
            for (int other = 0; other < 40; other++) {
                if (other == place) continue;
                int course = place / 8, column = place % 8;
                StringBuilder text = Edges.even('b', 5, 8);
                text.setCharAt(Edges.in(8, course, column), 'a');
                text.setCharAt(Edges.in(8, other / 8, other % 8), 'c');
                boolean beside = beside(course, column, other / 8, other % 8);
                String of = "at " + place + " by " + other;
                WallHands lovers = wall(text.toString(), "l5;p1;l1");
                due(of + ": a lover's", lovers.at(0, course, column, 1), beside ? 7 : 5);
                text.setCharAt(Edges.in(8, other / 8, other % 8), 'a');
                WallHands plain = wall(text.toString(), "p5;p1");
                due(of + ": of its hand", plain.at(0, course, column, 1), beside ? 6 : 5);
            }
        }
    }

    @Edge(promise = 13, sentence = HOLDS)
    static void holdsByNoneToFourOfItsHand() {
        for (int strong = 1; strong <= 9; strong++) {
            WallHands alone = wall("a", "p" + strong);
            due("alone", alone.at(0, 0, 0, 1), strong);
            WallHands full = wall(Edges.even('a', 5, 8).toString(), "p" + strong);
            for (int course = 0; course < 5; course++) {
                for (int column = 0; column < 8; column++) {
                    int sides = 4 - (course % 4 == 0 ? 1 : 0) - (column % 7 == 0 ? 1 : 0);
                    due("at " + course + " " + column, full.at(0, course, column, 1), strong + sides);
                }
            }
        }
    }

    @Edge(promise = 13, sentence = "in a temper by 1 less for each NEIGHBOUR of another one")
    static void inATemperByNoneToFourOthers() {
        for (int course = 0; course < 5; course++) {
            for (int column = 0; column < 8; column++) {
                int sides = 4 - (course % 4 == 0 ? 1 : 0) - (column % 7 == 0 ? 1 : 0);
                StringBuilder text = Edges.even('b', 5, 8);
                text.setCharAt(Edges.in(8, course, column), 'a');
                due("among others", wall(text.toString(), "t9;t1").at(0, course, column, 1), 9 - sides);
                due("among others not told", wall(text.toString(), "t9").at(0, course, column, 1), 9 - sides);
                due("it leaves plain ones", wall(text.toString(), "p9;t1").at(0, course, column, 1), 9);
            }
        }
        due("alone", wall("a", "t4").at(0, 0, 0, 1), 4);
        due("one of its own and one other", wall("aab", "t4;p1").at(0, 0, 1, 1), 4);
        due("three others, one of its own", wall("bbb;bab;.a.", "t4;p1").at(0, 1, 1, 1), 2);
        due("four of its own", wall("aaa;aaa;aaa", "t4").at(0, 1, 1, 1), 8);
        WallHands alone = wall("bab", "t4;p1");
        alone.frost(7, 2);
        for (int year : new int[] {7, 6, 19, 0}) due("behind year " + year, alone.at(year, 0, 1, 1), year < 7 ? 2 : 4);
    }

    @Edge(promise = 13, sentence = "a lover's by 2 more, if a NEIGHBOUR (one or more) is of another HAND that is a lover")
    static void aLoversByOneOrMoreOtherLovers() {
        due("no lover", wall("bab", "l4;p1").at(0, 0, 1, 1), 4);
        due("one", wall("ba.", "l4;l1").at(0, 0, 1, 1), 6);
        due("two", wall("bab", "l4;l1").at(0, 0, 1, 1), 6);
        due("two hands", wall("bac", "l4;l1;l1").at(0, 0, 1, 1), 6);
        due("three", wall("bab;.b.", "l4;l1").at(0, 0, 1, 1), 6);
        due("four", wall("bbb;bab;bbb", "l4;l1").at(0, 1, 1, 1), 6);
        due("its own hand is no other one", wall("aaa", "l4").at(0, 0, 1, 1), 6);
        due("three of its own and one other", wall("aba;aaa;aaa", "l9;l1").at(0, 1, 1, 1), 14);
        due("a hand not told is no lover", wall("ah", "l4").at(0, 0, 0, 1), 4);
        due("a plain one is not loved", wall("ab", "p4;l1").at(0, 0, 0, 1), 4);
        due("one in a temper by a lover", wall("ab", "t4;l1").at(0, 0, 0, 1), 3);
        due("a striker by a lover", wall("ab", "s4;l1").at(0, 0, 0, 1), 4);
        due("a lover by one in a temper", wall("ab", "l4;t1").at(0, 0, 0, 1), 4);
        due("a lover by a striker", wall("ab", "l4;s1").at(0, 0, 0, 1), 4);
        due("an eighth hand", wall("gh", "p1;p1;p1;p1;p1;p1;l2;l5").at(0, 0, 1, 1), 7);
    }

    @Edge(promise = 13, sentence = "a striker's by 1 less for each COURSE below it; below 0, and of a HAND that is not told, it is 0.")
    static void aStrikersByCoursesBelow() {
        for (int strong = 1; strong <= 9; strong++) {
            for (int course = 0; course < 5; course++) {
                StringBuilder text = Edges.even('b', 5, 1);
                text.setCharAt(Edges.in(1, course, 0), 'a');
                WallHands x = wall(text.toString(), "s" + strong + ";p1");
                due("s" + strong + " in course " + course, x.at(0, course, 0, 1), Math.max(0, strong - course));
                WallHands own = wall(Edges.even('a', 5, 1).toString(), "s" + strong);
                int sides = course % 4 == 0 ? 1 : 2;
                due("s" + strong + " among its own", own.at(0, course, 0, 1), Math.max(0, strong + sides - course));
            }
        }
    }

    @Edge(promise = 13, sentence = "below 0, and of a HAND that is not told, it is 0.")
    static void holdsByNoLessThan0() {
        for (int strong = 1; strong <= 5; strong++) {
            WallHands x = wall("bbb;bab;bbb", "t" + strong + ";p1");
            due("t" + strong + " by four others", x.at(0, 1, 1, 1), Math.max(0, strong - 4));
        }
        WallHands among = wall("bbb;bbb;bbb", "p9");
        due("not told among its own", among.at(0, 1, 1, 1), 0);
        due("not told, and no hands", wall("a", "").at(0, 0, 0, 1), 0);
        due("the first one that is not told", wall("abc", "l1;l1").at(0, 0, 2, 1), 0);
        due("the last one that is told", wall("abc", "p1;p8").at(0, 0, 1, 1), 8);
    }

    // ---- promise 13: frosts

    @Edge(promise = {13, 15}, sentence = "all STONES that HOLD by less than its FORCE")
    static void frostsTakeWhatHoldsByLess() {
        // a wall, its hands, the column of course 0 that is looked at, by how much it holds
        Object[][] walls = {{"b", "p1", 0, 0}, {"a", "p1", 0, 1}, {"a", "p5", 0, 5}, {"a", "p9", 0, 9}, {"aa", "p9", 0, 10},
            {"aaa", "p9", 1, 11}, {"aaa;.a.", "p9", 1, 12}, {"aab;.a.", "l9;l1", 1, 13}};
        for (Object[] row : walls) {
            int column = (Integer) row[2], hold = (Integer) row[3];
            for (int force = 1; force <= 15; force++) {
                WallHands x = wall((String) row[0], (String) row[1]);
                due(row[0] + " holds", x.at(4, 0, column, 1), hold);
                x.frost(5, force);
                boolean stands = x.at(5, 0, column, 0) != NONE;
                due(row[0] + " behind a frost of " + force, stands ? 1 : 0, hold < force ? 0 : 1);
                due(row[0] + " ahead of it", x.at(4, 0, column, 1), hold);
            }
        }
    }

    @Edge(promise = {13, 15}, sentence = "as all stand then, FALL together")
    static void stonesFallTogetherAsAllStand() {
        WallHands x = wall("aaa", "p2");
        x.frost(0, 4);
        due("the outer two fall", x.falls(0), 2);
        due("the middle one held by them", x.at(0, 0, 1, 0), 0);
        due("and now by itself", x.at(0, 0, 1, 1), 2);
        x.frost(0, 3);
        due("by a second frost of the year it falls", x.falls(0), 3);
        // in year 0 one that is not borne still stands when the frost comes, and is leant on
        WallHands first = wall("b..;aa.", "p3;p9");
        first.frost(0, 4);
        due("leaning on what is not borne", first.falls(0), 1);
        due("so it stands", first.at(0, 1, 0, 0), 0);
        WallHands later = wall("b..;aa.", "p3;p9");
        later.frost(1, 4);
        due("what is not borne falls in year 0", later.falls(0), 1);
        due("and is not leant on in year 1", later.falls(1), 1);
        due("so it falls", later.at(1, 1, 0, 0), NONE);
    }

    @Edge(promise = {13, 15}, sentence = "and behind that those that are not BORNE, COURSE by COURSE from the lowest on")
    static void whatIsNotBorneFallsBehindEachFrost() {
        WallHands tower = wall("b;a;a;a;a", "p9;p1");
        tower.frost(3, 2);
        due("all five", tower.falls(3), 5);
        // c goes with b, on which it stands, so that the year's second frost finds a with one other less
        WallHands x = wall("db;ac", "t5;p1;p9;p9");
        x.frost(6, 2);
        x.frost(6, 4);
        due("b and c fall", x.falls(6), 2);
        due("a stands", x.at(6, 1, 0, 0), 0);
        // the bridge on the two that are left stays
        WallHands bridge = wall("aba;.a.", "p3;p1");
        bridge.frost(6, 2);
        due("but b none falls", bridge.falls(6), 1);
        due("the bridge stands", bridge.at(6, 1, 1, 0), 0);
    }

    @Edge(promise = {13, 15}, sentence = "In a YEAR for each of its FROSTS, as told")
    static void frostsOfAYearComeAsTold() {
        WallHands x = wall("ab", "t4;p1");
        x.frost(0, 2);
        x.frost(0, 4);
        due("the lesser first", x.falls(0), 1);
        WallHands y = wall("ab", "t4;p1");
        y.frost(0, 4);
        y.frost(0, 2);
        due("the greater first", y.falls(0), 2);
        // a wall that loses one column by each of six frosts of the last year
        WallHands six = wall("abcdef", "p1;p2;p3;p4;p5;p6");
        for (int force = 2; force <= 7; force++) {
            six.frost(19, force);
            due("frosts of year 19", six.falls(19), force - 1);
        }
        due("none in year 18", six.falls(18), 0);
    }

    @Edge(promise = {13, 15}, sentence = "in a YEAR without a FROST those that are not BORNE FALL likewise")
    static void withoutAFrostWhatIsNotBorneFalls() {
        WallHands x = wall(".;a;a;a;a", "p9");
        due("four in year 0", x.falls(0), 4);
        due("none later", x.falls(1) + x.falls(19), 0);
        due("gone behind year 0", x.at(0, 4, 0, 0), NONE);
        x.frost(0, 1);
        due("and with a frost in year 0", x.falls(0), 4);
    }

    // ---- promise 13: gappings

    @Edge(promise = {10, 13}, sentence = "a STONE of that HAND is set in that COLUMN (if there is such a one)")
    static void gappingsOfColumnsThatAreNot() {
        for (int columns = 1; columns <= 8; columns++) {
            for (int column = 0; column < 8; column++) {
                WallHands x = wall(Edges.even('.', 1, columns).toString(), "p1");
                x.gapping(0, column, 0);
                due("column " + column + " of " + columns, x.mine(0), column < columns ? 1 : 0);
                due("at its place", x.at(0, 0, column, 0), column < columns ? 0 : NONE);
            }
        }
        WallHands none = new WallHands();
        none.gapping(0, 0, 0);
        due("of no wall", none.mine(0), 0);
    }

    @Edge(promise = {10, 13}, sentence = "at the lowest place of COURSES told that is empty, if it is BORNE there; else nothing is.")
    static void gappingsAtTheLowestPlace() {
        for (int courses = 1; courses <= 5; courses++) {
            WallHands x = wall(Edges.even('.', courses, 1).toString(), "p1");
            for (int n = 1; n <= 6; n++) {
                x.gapping(2, 0, n);
                due("the " + n + "th of " + courses, x.column(2, 0, 0), Math.min(n, courses));
                if (n <= 5) due("its place", x.at(2, n - 1, 0, 0), n <= courses ? n : NONE);
            }
        }
        WallHands bridge = wall("a.a;.a.", "p1;p1");
        bridge.gapping(4, 1, 1);
        due("below the bridge", bridge.at(4, 0, 1, 0), 1);
        due("the bridge is as it was", bridge.at(4, 1, 1, 0), 0);
        bridge.gapping(5, 1, 1);
        due("no place is left", bridge.column(5, 1, 0), 2);
        due("a stone on an empty course", stackedOnGap(), 1);
        // the year's second gapping has no place; what the first one set still keeps sheep out
        WallHands second = wall("a;.", "p1");
        second.gapping(4, 0, 0);
        second.gapping(4, 0, 0);
        due("the second has no place", second.column(4, 0, 0), 2);
        due("the first keeps sheep out", second.column(4, 0, 1), 0);
        due("from its year on", second.sheep(1), 4);
    }

    /** A course of no stones is told too, and a gap in it is filled. */
    private static int stackedOnGap() {
        WallHands x = wall("a.;..", "p1;p1");
        x.gapping(0, 0, 1);
        return x.at(0, 1, 0, 0);
    }

    @Edge(promise = {10, 13}, sentence = "Then for each of its GAPPINGS, as told")
    static void gappingsComeBehindFrosts() {
        WallHands x = wall("a", "p1;p2");
        x.gapping(19, 0, 1);
        x.frost(19, 15);
        due("it fell", x.falls(19), 1);
        due("and is mended in the same year", x.at(19, 0, 0, 0), 1);
        WallHands next = wall(".", "p1");
        next.gapping(3, 0, 0);
        next.frost(4, 2);
        due("mended", next.at(3, 0, 0, 0), 0);
        due("and falls the next year", next.falls(4), 1);
        WallHands order = wall(".;.", "p1;p1");
        order.gapping(0, 0, 1);
        order.gapping(0, 0, 0);
        due("the one told first is lower", order.at(0, 0, 0, 0), 1);
        due("the one told then is higher", order.at(0, 1, 0, 0), 0);
        WallHands years = wall(".;.", "p1;p1");
        years.gapping(9, 0, 1);
        years.gapping(8, 0, 0);
        due("the earlier year is lower", years.at(19, 0, 0, 0), 0);
        due("the later year is higher", years.at(19, 1, 0, 0), 1);
    }

    // ---- promise 14

    @Edge(promise = 14, sentence = {"How HIGH (what = 0), whether SHEEP get THROUGH (1: 1, 0). BAD: no such COLUMN.",
        "Of a COLUMN: how HIGH; whether SHEEP get THROUGH."})
    static void columnsThatThereAre() {
        for (int columns = 1; columns <= 8; columns++) {
            for (int column = -1; column <= 9; column++) {
                boolean is = column >= 0 && column < columns;
                WallHands x = wall(Edges.even('a', 5, columns).toString(), "p1");
                due("high", x.column(0, column, 0), is ? 5 : BAD);
                due("through", x.column(19, column, 1), is ? 0 : BAD);
            }
        }
        for (int what = 0; what < 2; what++) {
            int w = what;
            Edges.range("column, year", 0, 19, (x, v) -> x.column(v, 0, w));
            Edges.refuses("no column 3 of three", Edges::someOfAll, x -> x.column(0, 3, w), BAD);
            Edges.refuses("no column 8 of eight", Edges::allFull, x -> x.column(0, 8, w), BAD);
            Edges.refuses("no column -1", Edges::allFull, x -> x.column(0, -1, w), BAD);
            Edges.refuses("no column 0 of none", Edges::nothing, x -> x.column(0, 0, w), BAD);
            Edges.refuses("the least number", Edges::allFull, x -> x.column(0, Edges.LEAST, w), BAD);
            Edges.refuses("the greatest number", Edges::allFull, x -> x.column(0, Edges.MOST, w), BAD);
        }
        Edges.range("column, what", 0, 1, (x, v) -> x.column(0, 0, v));
    }

    @Edge(promise = 14, sentence = {"SHEEP get THROUGH at a COLUMN, if it is less HIGH (how many STONES are in it) than JUMP, or as HIGH, and one of them is a lover's",
        "but never where one of them was set in a temper"})
    static void sheepAtEachHeight() {
        // a: plain, b: in a temper, c: a lover, d: a striker, h: not told
        String[] kinds = {"aaaaa", "aaaac", "caaaa", "ccccc", "aaaab", "baaaa", "cabaa", "ddddd", "hhhhh", "cccbc"};
        for (String kind : kinds) {
            for (int high = 0; high <= 5; high++) {
                String stones = kind.substring(5 - high);
                StringBuilder text = Edges.even('.', 5, 1);
                for (int course = 0; course < high; course++) text.setCharAt(2 * course, stones.charAt(course));
                for (int jump = 1; jump <= 5; jump++) {
                    WallHands x = wall(text.toString(), "p5;t5;l5;s9");
                    x.jump(jump);
                    boolean temper = stones.indexOf('b') >= 0, lover = stones.indexOf('c') >= 0;
                    boolean through = !temper && (high < jump || high == jump && lover);
                    due("'" + stones + "' high", x.column(7, 0, 0), high);
                    due("'" + stones + "' at jump " + jump, x.column(7, 0, 1), through ? 1 : 0);
                }
            }
        }
    }

    @Edge(promise = 14, sentence = "less HIGH (how many STONES are in it)")
    static void highIsHowManyStones() {
        WallHands x = wall("a.a;.a.;.a.", "p1");
        due("a hole is not counted", x.column(0, 1, 0), 2);
        x.jump(3);
        due("so it is less high than 3", x.column(0, 1, 1), 1);
        x.jump(2);
        due("and as high as 2", x.column(0, 1, 1), 0);
    }

    // ---- promises 15 to 18

    @Edge(promise = 15, sentence = {"FALLS. BAD.", "FALLS: how many STONES FALL in a YEAR."})
    static void fallsOfEachYear() {
        Edges.range("falls", 0, 19, (x, v) -> x.falls(v));
        WallHands all = wall(Edges.even('a', 5, 8).toString(), "p1");
        all.frost(19, 15);
        due("all forty", all.falls(19), 40);
        due("none ahead of that", all.falls(18), 0);
        WallHands none = wall(Edges.even('a', 5, 8).toString(), "p1");
        none.frost(19, 3);
        due("none by a frost that all hold against", none.falls(19), 0);
        due("none of no wall", new WallHands().falls(0), 0);
        WallHands again = wall("a", "p1");
        for (int year = 0; year < 6; year++) {
            again.frost(year, 2);
            again.gapping(year, 0, 0);
        }
        for (int year = 0; year < 6; year++) due("one that is set anew falls again", again.falls(year), 1);
        due("but not without a frost", again.falls(6), 0);
    }

    @Edge(promise = 16, sentence = {"SHEEP: the YEAR (what = 0; NONE), behind how many (1). BAD.",
        "SHEEP: the first YEAR behind which they get THROUGH anywhere (NONE); behind how many."})
    static void sheepFromNeverToAlways() {
        Edges.range("sheep", 0, 1, (x, v) -> x.sheep(v));
        for (int year = 0; year < 20; year++) {
            WallHands x = wall("aaaaaaaa;aaaaaaab", "p5;p1");
            x.frost(year, 2);
            due("from year " + year + " on", x.sheep(0), year);
            due("behind how many", x.sheep(1), 20 - year);
            WallHands until = wall("aaaaaaaa;.aaaaaaa", "p5");
            until.gapping(year, 0, 0);
            due("until year " + year, until.sheep(0), year == 0 ? NONE : 0);
            due("behind how many", until.sheep(1), year);
        }
        WallHands never = wall("aa;aa", "p5");
        due("never", never.sheep(0), NONE);
        due("behind none", never.sheep(1), 0);
        due("no columns: never", new WallHands().sheep(0), NONE);
        due("no columns: behind none", new WallHands().sheep(1), 0);
        WallHands twice = wall("a;a", "p1");
        twice.frost(2, 3);
        twice.gapping(4, 0, 0);
        twice.gapping(4, 0, 0);
        twice.frost(18, 3);
        due("twice: the first year", twice.sheep(0), 2);
        due("twice: behind how many", twice.sheep(1), 4);
    }

    @Edge(promise = 17, sentence = {"MINE (HANDS 0 to 7). BAD.", "MINE: how many STONES of a HAND stand behind YEAR 19"})
    static void mineOfEachHand() {
        Edges.range("mine", 0, 7, (x, v) -> x.mine(v));
        for (int hand = 0; hand < 8; hand++) {
            WallHands x = wall(Edges.even((char) ('a' + hand), 5, 8).toString(), "");
            for (int h = 0; h < 8; h++) due("mine " + h + " of forty of " + hand, x.mine(h), h == hand ? 40 : 0);
            x.frost(19, 1);
            due("behind year 19", x.mine(hand), 0);
            x.gapping(19, 7, hand);
            due("and its gapping", x.mine(hand), 1);
        }
        due("of no wall", new WallHands().mine(0) + new WallHands().mine(7), 0);
    }

    @Edge(promise = 18, sentence = {"BEST; NONE.", "BEST: the HAND of which most do, of like ones the least; NONE: none stands."})
    static void bestOfLikeOnes() {
        due("none stands: no wall", new WallHands().best(), NONE);
        due("none stands: no stones", wall("..;..", "p1").best(), NONE);
        for (int hand = 0; hand < 8; hand++) {
            due("the one stone's", wall("" + (char) ('a' + hand), "").best(), hand);
            for (int other = 0; other < 8; other++) {
                String like = "" + (char) ('a' + hand) + (char) ('a' + other);
                due("of like ones the least: " + like, wall(like, "").best(), Math.min(hand, other));
                due("the most: " + like, wall(like + (char) ('a' + other), "").best(), other);
            }
        }
        WallHands x = wall("aab", "p1;p2");
        x.frost(19, 3);
        due("none stands behind 19", x.best(), NONE);
        x.gapping(19, 0, 6);
        due("one is set in 19", x.best(), 6);
    }
}
