/** Edges of promises 8 to 12: jump, frosts, gappings, what is undone, frosts from a sheet. */
public final class EdgesOfTellingTest {
    private static final int BAD = Edges.BAD, NOT = Edges.NOT, FULL = Edges.FULL, NULL = Edges.NULL;

    public static void main(String[] args) throws Exception {
        Edges.run(EdgesOfTellingTest.class);
    }

    private static void due(String what, long got, long want) {
        Edges.due(what, got, want);
    }

    private static void sixFrosts(WallHands x) {
        for (int i = 0; i < 6; i++) x.frost(i, 1);
    }

    private static void sixGappings(WallHands x) {
        for (int i = 0; i < 6; i++) x.gapping(i, 1, 1);
    }

    // ---- what is told shows at once

    @Edge(promise = {2, 3, 4}, sentence = {"A byte (0 to 255) comes behind a text: how many.", "A text is empty: how many bytes it had.",
        "The last byte of a text is undone: how many are left."})
    static void textsShowAtOnce() {
        for (int text = 0; text < 2; text++) {
            int t = text;
            Edges.showsAtOnce("wipe " + t, Edges::someOfAll, x -> x.wipe(t));
            Edges.showsAtOnce("undo " + t, Edges::allFull, x -> x.undo(t));
            Edges.showsAtOnce("type " + t, x -> {
                Edges.allFull(x);
                x.undo(t);
            }, x -> x.type(t, t == 0 ? 'b' : '2'));
        }
    }

    @Edge(promise = {8, 9, 10, 11, 12}, sentence = {"JUMP: what it was.", "A FROST more: how many.", "A GAPPING more: how many.",
        "The last FROST (what = 0), GAPPING (1) is undone: how many are left.", "FROSTS from a SHEET"})
    static void jumpFrostsAndGappingsShowAtOnce() {
        Edges.showsAtOnce("jump", Edges::someOfAll, x -> x.jump(1));
        Edges.showsAtOnce("frost", Edges::someOfAll, x -> x.frost(0, 5));
        Edges.showsAtOnce("gapping", Edges::someOfAll, x -> x.gapping(8, 2, 0));
        Edges.showsAtOnce("back 0", Edges::someOfAll, x -> x.back(0));
        Edges.showsAtOnce("back 1", Edges::someOfAll, x -> x.back(1));
        Edges.showsAtOnce("read", Edges::someOfAll, x -> x.read(0));
        WallHands x = Edges.wall("a;a", "p1");
        due("no sheep", x.sheep(1), 0);
        x.jump(3);
        due("a greater jump", x.sheep(1), 20);
        x.gapping(9, 0, 0);
        due("no place is left", x.sheep(1), 20);
        x.frost(9, 3);
        due("a frost: falls", x.falls(9), 2);
        due("a frost: one is mended", x.column(9, 0, 0), 1);
        Edges.fill(x, 0, 0, 10, 2);
        x.read(0);
        due("one that was read", x.falls(10), 1);
    }

    // ---- promise 8

    @Edge(promise = 8, sentence = {"JUMP (1 to 5; 2 at first).", "JUMP: what it was. BAD."})
    static void jumpIsOneToFive() {
        Edges.range("jump", 1, 5, (x, v) -> x.jump(v));
        WallHands x = new WallHands();
        due("2 at first", x.jump(1), 2);
        for (int v = 2; v <= 5; v++) due("what it was", x.jump(v), v - 1);
        due("a greater one is refused", x.jump(6), BAD);
        due("it was 5", x.jump(1), 5);
        due("a lesser one is refused", x.jump(0), BAD);
        due("it was 1", x.jump(1), 1);
        due("it was the same", x.jump(2), 1);
    }

    // ---- promise 9

    @Edge(promise = 9, sentence = {"YEARS are 0 to 19.", "in a YEAR, of a FORCE (1 to 15)"})
    static void frostsAreOfYearsAndForces() {
        Edges.range("frost, year", 0, 19, (x, v) -> x.frost(v, 5));
        Edges.range("frost, force", 1, 15, (x, v) -> x.frost(5, v));
        for (int year = 0; year < 20; year++) {
            WallHands x = Edges.wall("a", "p9");
            x.frost(year, 10);
            for (int y = 0; y < 20; y++) due("a frost of year " + year, x.falls(y), y == year ? 1 : 0);
        }
        for (int force = 1; force <= 15; force++) {
            WallHands x = Edges.wall("a", "p7");
            x.frost(0, force);
            due("a frost of force " + force, x.falls(0), force > 7 ? 1 : 0);
        }
    }

    @Edge(promise = 9, sentence = {"FROSTS, 6 at most (0 on)", "A FROST more: how many. BAD; FULL."})
    static void frostsAreSixAtMost() {
        WallHands x = Edges.wall("ab;ab", "p5;p2");
        for (int n = 1; n <= 6; n++) due("frost " + n, x.frost(19, 1), n);
        due("six", x.count(4), 6);
        due("a seventh", x.frost(0, 15), FULL);
        due("the seventh is not", x.falls(0), 0);
        Edges.refuses("a seventh leaves all", Edges::allFull, y -> y.frost(0, 15), FULL);
        Edges.refuses("a seventh without a wall", EdgesOfTellingTest::sixFrosts, y -> y.frost(19, 1), FULL);
        due("behind back() there is room", x.back(0) + x.frost(0, 15), 5 + 6);
        due("for that one", x.falls(0), 4);
        due("gappings have their own room", x.gapping(0, 0, 0), 1);
    }

    @Edge(promise = 9, sentence = "A FROST more: how many. BAD; FULL.")
    static void frostIsBadAheadOfFull() {
        for (int year : new int[] {-1, 20}) {
            Edges.refuses("year " + year + " of six", EdgesOfTellingTest::sixFrosts, x -> x.frost(year, 1), BAD);
        }
        for (int force : new int[] {0, 16}) {
            Edges.refuses("force " + force + " of six", EdgesOfTellingTest::sixFrosts, x -> x.frost(0, force), BAD);
        }
    }

    // ---- promise 10

    @Edge(promise = 10, sentence = "in a YEAR, a COLUMN (0 to 7), a HAND (0 to 7)")
    static void gappingsAreOfYearsColumnsAndHands() {
        Edges.range("gapping, year", 0, 19, (x, v) -> x.gapping(v, 0, 0));
        Edges.range("gapping, column", 0, 7, (x, v) -> x.gapping(0, v, 0));
        Edges.range("gapping, hand", 0, 7, (x, v) -> x.gapping(0, 0, v));
        for (int year = 0; year < 20; year++) {
            WallHands x = Edges.wall(".", "");
            x.gapping(year, 0, 0);
            for (int y = 0; y < 20; y++) due("a gapping of year " + year, x.column(y, 0, 0), y < year ? 0 : 1);
        }
        for (int column = 0; column < 8; column++) {
            for (int hand = 0; hand < 8; hand++) {
                WallHands x = Edges.wall("........", "");
                x.gapping(3, column, hand);
                due("a gapping of column " + column + ", hand " + hand, x.at(3, 0, column, 0), hand);
            }
        }
    }

    @Edge(promise = 10, sentence = {"GAPPINGS, 6 at most (0 on)", "A GAPPING more: how many. BAD; FULL."})
    static void gappingsAreSixAtMost() {
        WallHands x = Edges.wall("........", "p5");
        for (int n = 1; n <= 6; n++) due("gapping " + n, x.gapping(1, n - 1, 0), n);
        due("six", x.count(5), 6);
        due("a seventh", x.gapping(1, 6, 0), FULL);
        due("the seventh is not", x.mine(0), 6);
        Edges.refuses("a seventh leaves all", Edges::allFull, y -> y.gapping(1, 6, 0), FULL);
        Edges.refuses("a seventh without a wall", EdgesOfTellingTest::sixGappings, y -> y.gapping(1, 6, 0), FULL);
        due("behind back() there is room", x.back(1) + x.gapping(1, 7, 1), 5 + 6);
        due("for that one", x.at(1, 0, 7, 0), 1);
        due("the one undone is not", x.at(1, 0, 5, 0), Edges.NONE);
        due("frosts have their own room", x.frost(0, 1), 1);
    }

    @Edge(promise = 10, sentence = "A GAPPING more: how many. BAD; FULL.")
    static void gappingIsBadAheadOfFull() {
        for (int v : new int[] {-1, 20}) {
            Edges.refuses("year " + v + " of six", EdgesOfTellingTest::sixGappings, x -> x.gapping(v, 0, 0), BAD);
        }
        for (int v : new int[] {-1, 8}) {
            Edges.refuses("column " + v + " of six", EdgesOfTellingTest::sixGappings, x -> x.gapping(0, v, 0), BAD);
            Edges.refuses("hand " + v + " of six", EdgesOfTellingTest::sixGappings, x -> x.gapping(0, 0, v), BAD);
        }
    }

    // ---- promise 11

    @Edge(promise = 11, sentence = "The last FROST (what = 0), GAPPING (1) is undone: how many are left. BAD; NOT: there is none.")
    static void backDownToNone() {
        Edges.range("back", 0, 1, (x, v) -> x.back(v));
        WallHands x = Edges.made(Edges::allFull);
        for (int left = 5; left >= 0; left--) due("back a frost", x.back(0), left);
        due("back of no frost", x.back(0), NOT);
        due("gappings stay", x.count(5), 6);
        for (int left = 5; left >= 0; left--) due("back a gapping", x.back(1), left);
        due("back of no gapping", x.back(1), NOT);
        Edges.refuses("back at first: frost", Edges::nothing, y -> y.back(0), NOT);
        Edges.refuses("back at first: gapping", Edges::nothing, y -> y.back(1), NOT);
        Edges.refuses("back of no frost beside gappings", EdgesOfTellingTest::sixGappings, y -> y.back(0), NOT);
        Edges.refuses("back of no gapping beside frosts", EdgesOfTellingTest::sixFrosts, y -> y.back(1), NOT);
    }

    @Edge(promise = 11, sentence = "The last FROST (what = 0), GAPPING (1) is undone")
    static void backUndoesTheLastOneTold() {
        WallHands x = Edges.wall("abc;...", "p3;p5;p7");
        // the last one told is not that of the last year
        x.frost(9, 4);
        x.frost(2, 6);
        due("both", x.falls(9) * 10 + x.falls(2), 2);
        x.back(0);
        due("the first one told is left", x.falls(9) * 10 + x.falls(2), 10);
        x.gapping(9, 0, 0);
        x.gapping(2, 1, 0);
        x.back(1);
        due("the first gapping told is left", x.column(19, 0, 0), 1);
        due("the last one is undone", x.column(19, 1, 0), 1);
    }

    @Edge(promise = 11, sentence = "how many are left. BAD; NOT: there is none.")
    static void backIsBadAheadOfNot() {
        Edges.refuses("back 2 of nothing", Edges::nothing, x -> x.back(2), BAD);
        Edges.refuses("back -1 of nothing", Edges::nothing, x -> x.back(-1), BAD);
    }

    // ---- promise 12

    @Edge(promise = 12, sentence = "how many. BAD; NULL.")
    static void readOfSheetsThatAreNotThere() {
        Edges.range("read", 0, 3, (x, v) -> x.read(v));
        for (int s = 0; s < 4; s++) {
            int lost = s;
            Edges.refuses("read sheet " + s + " of nothing", Edges::nothing, x -> x.read(lost), NULL);
        }
        Edges.refuses("read a lost sheet", Edges::someOfAll, x -> x.read(3), NULL);
        Edges.refuses("read a lost sheet at six frosts", Edges::allFull, x -> x.read(3), NULL);
        Edges.refuses("bad ahead of null: 4", Edges::nothing, x -> x.read(4), BAD);
        Edges.refuses("bad ahead of null: -1", Edges::nothing, x -> x.read(-1), BAD);
    }

    @Edge(promise = 12, sentence = "FROSTS from a SHEET: its items, two for each, as many as are whole")
    static void readTakesTwoItemsForEach() {
        for (int form = 0; form < 3; form++) {
            for (int n = 0; n <= 15; n++) {
                WallHands x = Edges.wall("a", "p1");
                int[] items = new int[n];
                for (int i = 0; i < n; i++) items[i] = 1 + i;
                Edges.fill(x, form, form, items);
                due("read of " + n + " items", x.read(form), Math.min(6, n / 2));
                due("frosts of " + n + " items", x.count(4), Math.min(6, n / 2));
            }
        }
        WallHands x = Edges.wall("ab", "p4;p6");
        Edges.fill(x, 0, 1, 19, 5, 0, 7, 3);
        due("two whole ones", x.read(0), 2);
        due("the second: year 0, force 7", x.falls(0), 2);
        x.back(0);
        due("the first: year 19, force 5", x.falls(19), 1);
        WallHands most = Edges.wall("a", "p1");
        most.sheet(3, 2, 60);
        for (int i = 1; i < 60; i += 2) most.put(3, 2, i, 1);
        due("read of 60 items", most.read(3), 6);
        due("frosts of 60 items", most.count(4), 6);
    }

    @Edge(promise = 12, sentence = "as long as each may be: how many.")
    static void readEndsAtOneThatMayNotBe() {
        int[][] wrong = {{-1, 5}, {20, 5}, {5, 0}, {5, 16}, {5, -1}, {-20, -20}};
        for (int[] pair : wrong) {
            String of = " year " + pair[0] + ", force " + pair[1];
            for (int form = 0; form < 3; form++) {
                WallHands first = Edges.wall("a", "p1");
                Edges.fill(first, 0, form, pair[0], pair[1], 3, 2);
                due("first" + of, first.read(0), 0);
                due("none came", first.count(4), 0);
                WallHands second = Edges.wall("a", "p1");
                Edges.fill(second, 0, form, 3, 2, pair[0], pair[1], 4, 2);
                due("second" + of, second.read(0), 1);
                due("one came", second.count(4), 1);
                due("that one", second.falls(3), 1);
            }
        }
        WallHands edges = Edges.wall("a", "p1");
        Edges.fill(edges, 0, 0, 0, 1, 19, 1, 0, 15, 19, 15);
        due("the least and the greatest may be", edges.read(0), 4);
        WallHands wide = Edges.wall("a", "p1");
        Edges.fill(wide, 0, 2, 256, 1);
        due("an int is not cut to a byte", wide.read(0), 0);
        Edges.fill(wide, 0, 2, 0, 65537);
        due("an int is not cut to a short", wide.read(0), 0);
    }

    @Edge(promise = 12, sentence = {"FROSTS, 6 at most (0 on)", "as long as each may be: how many."})
    static void readStopsAtSixFrosts() {
        for (int told = 0; told <= 6; told++) {
            WallHands x = Edges.wall("a", "p1");
            for (int i = 0; i < told; i++) x.frost(9, 1);
            Edges.fill(x, 2, 0, 10, 1, 11, 1, 12, 1, 13, 1);
            due("four behind " + told, x.read(2), Math.min(4, 6 - told));
            due("in all", x.count(4), Math.min(told + 4, 6));
        }
        WallHands x = Edges.wall("a", "p1");
        for (int i = 0; i < 5; i++) x.frost(9, 1);
        Edges.fill(x, 2, 0, 10, 1, 11, 2);
        due("one has room", x.read(2), 1);
        due("the one without room is not", x.falls(11), 0);
        Edges.leaves("read at six", y -> {
            Edges.allFull(y);
            Edges.fill(y, 1, 0, 1, 15, 2, 15);
        }, y -> y.read(1), 0, 0);
        Edges.leaves("read of no items", y -> {
            Edges.someOfAll(y);
            y.sheet(3, 1, 0);
        }, y -> y.read(3), 0, 0);
        Edges.leaves("read of one item", y -> {
            Edges.someOfAll(y);
            Edges.fill(y, 3, 1, 4);
        }, y -> y.read(3), 0, 0);
        Edges.leaves("read of none that may be", y -> {
            Edges.someOfAll(y);
            Edges.fill(y, 3, 1, 4, 0, 4, 4);
        }, y -> y.read(3), 0, 0);
    }

    @Edge(promise = 12, sentence = "FROSTS from a SHEET: its items, two for each")
    static void readKeepsTheSheetAndComesBehindFrostsTold() {
        WallHands x = Edges.wall("ab", "t4;p1");
        Edges.fill(x, 0, 0, 3, 4);
        x.frost(3, 2);
        due("read", x.read(0), 1);
        // b falls by the frost told, so that a holds against the one that was read
        due("as told: the frost told is first", x.at(3, 0, 0, 0), 0);
        due("the sheet is as it was", x.get(0, 0, 0) * 10 + x.get(0, 0, 1), 34);
        due("and has as many items", x.lose(0), 2);
        WallHands y = Edges.wall("ab", "t4;p1");
        Edges.fill(y, 0, 0, 3, 4);
        due("read", y.read(0), 1);
        y.frost(3, 2);
        due("as told: the one that was read is first", y.at(3, 0, 0, 0), Edges.NONE);
    }
}
