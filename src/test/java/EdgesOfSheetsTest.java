import java.math.BigInteger;

/** Edges of promises 30 to 37: sheets and findings, count, digest. */
public final class EdgesOfSheetsTest {
    private static final int BAD = Edges.BAD, LEAST = Edges.LEAST, MOST = Edges.MOST;
    private static final int NULL = Edges.NULL, INDEX = Edges.INDEX, CAST = Edges.CAST, STORE = Edges.STORE, SIZE = Edges.SIZE;
    private static final String COPY = "n items of SHEET s, from i on, come to SHEET t (perhaps s, as they were), from j on: 1. BAD: the SHEETS; NULL: s, t; STORE; INDEX: below 0, not so many.";
    private static final String PUT = "Item i, treated as of a FORM, becomes v (the lowest bits that it has): 1. BAD; NULL; CAST; INDEX.";
    private static final String GET = "Item i of it. BAD: the least int; so are NULL, CAST, INDEX (count() 8 tells).";
    private static final String FINDINGS = "FINDINGS (answers -10 less the number; they change nothing but count() 8)";

    public static void main(String[] args) throws Exception {
        Edges.run(EdgesOfSheetsTest.class);
    }

    private static void due(String what, long got, long want) {
        Edges.due(what, got, want);
    }

    /** A get that finds something answers the least int, and count() 8 tells. */
    private static void finds(String what, Edges.Call get, int finding) {
        Edges.leaves(what, Edges::someOfAll, get, LEAST, finding);
    }

    private static void items(String what, WallHands x, int s, int form, int... want) {
        for (int i = 0; i < want.length; i++) due(what + ": item " + i, x.get(s, form, i), want[i]);
    }

    /** Bytes 1 2 3 4 5, bytes of three, shorts of five, ints of five; nothing is lost. */
    private static void rows(WallHands x) {
        Edges.fill(x, 0, 0, 1, 2, 3, 4, 5);
        Edges.fill(x, 1, 0, 7, 8, 9);
        Edges.fill(x, 2, 1, 1, 2, 3, 4, 5);
        Edges.fill(x, 3, 2, 1, 2, 3, 4, 5);
    }

    private static void twoBytesAndLost(WallHands x) {
        Edges.fill(x, 0, 0, 1, 2);
        Edges.fill(x, 2, 1, 1, 2);
    }

    // ---- promise 30

    @Edge(promise = 30, sentence = {"A SHEET is a new row of a FORM with n items: n. BAD: SHEET, FORM, above 60; SIZE.",
        "SHEETS 0 .. 3 are LOST (at first) or a row of a FORM: 0 bytes, 1 shorts, 2 ints, of 0 to 60 items (0 at first)."})
    static void sheetsOfEachFormAndSize() {
        Edges.range("sheet", 0, 3, (x, v) -> x.sheet(v, 0, 1));
        Edges.range("sheet, form", 0, 2, (x, v) -> x.sheet(0, v, 1));
        for (int s = 0; s < 4; s++) {
            for (int form = 0; form < 3; form++) {
                for (int n = 0; n <= 60; n += n < 3 || n > 57 ? 1 : 55) {
                    WallHands x = new WallHands();
                    due("sheet of " + n, x.sheet(s, form, n), n);
                    for (int i = 0; i < n; i++) due("0 at first", x.get(s, form, i), 0);
                    due("no item behind the last", x.get(s, form, n), LEAST);
                    due("that is an INDEX", x.count(8), 2);
                    due("it has so many", x.lose(s), n);
                }
            }
        }
    }

    @Edge(promise = 30, sentence = "BAD: SHEET, FORM, above 60; SIZE.")
    static void sheetsThatAreTooLargeOrTooSmall() {
        for (int n : new int[] {61, 62, 256, 65536, MOST}) {
            Edges.refuses("sheet of " + n, Edges::someOfAll, x -> x.sheet(0, 0, n), BAD);
            Edges.refuses("sheet of " + n + " in place of none", Edges::nothing, x -> x.sheet(0, 0, n), BAD);
        }
        for (int n : new int[] {-1, -2, -60, LEAST}) {
            Edges.refuses("sheet of " + n, Edges::someOfAll, x -> x.sheet(0, 0, n), SIZE);
            Edges.refuses("sheet of " + n + " in place of none", Edges::nothing, x -> x.sheet(3, 2, n), SIZE);
            Edges.refuses("bad ahead of size: sheet 4", Edges::someOfAll, x -> x.sheet(4, 0, n), BAD);
            Edges.refuses("bad ahead of size: sheet -1", Edges::someOfAll, x -> x.sheet(-1, 0, n), BAD);
            Edges.refuses("bad ahead of size: form 3", Edges::someOfAll, x -> x.sheet(0, 3, n), BAD);
            Edges.refuses("bad ahead of size: form -1", Edges::someOfAll, x -> x.sheet(0, -1, n), BAD);
        }
    }

    @Edge(promise = 30, sentence = {"A SHEET is a new row of a FORM with n items: n.", "of 0 to 60 items (0 at first)"})
    static void aSheetAnewIsANewRow() {
        WallHands x = new WallHands();
        rows(x);
        due("the same form anew", x.sheet(0, 0, 5), 5);
        items("0 at first", x, 0, 0, 0, 0, 0, 0, 0);
        due("another form", x.sheet(1, 2, 3), 3);
        items("0 at first", x, 1, 2, 0, 0, 0);
        due("not as it was", x.get(1, 0, 0), LEAST);
        items("others stay", x, 2, 1, 1, 2, 3, 4, 5);
        Edges.fill(x, 3, 2, 9);
        due("smaller", x.lose(3), 1);
        x.sheet(3, 2, 5);
        items("what was lost is gone", x, 3, 2, 0, 0, 0, 0, 0);
    }

    // ---- promise 31

    @Edge(promise = 31, sentence = {"It is LOST: how many items it had. BAD; NULL.", "1 NULL: the SHEET is LOST"})
    static void loseSheets() {
        Edges.range("lose", 0, 3, (x, v) -> x.lose(v));
        for (int s = 0; s < 4; s++) {
            int lost = s;
            Edges.refuses("lose at first", Edges::nothing, x -> x.lose(lost), NULL);
            for (int n : new int[] {0, 1, 60}) {
                WallHands x = new WallHands();
                x.sheet(s, 1, n);
                due("lose " + n, x.lose(s), n);
                due("no finding", x.count(8), 0);
                due("it is lost", x.lose(s), NULL);
                due("that is a NULL", x.count(8), 1);
                due("no item of it", x.get(s, 1, 0), LEAST);
                due("it may be made anew", x.sheet(s, 1, 2), 2);
            }
        }
        Edges.refuses("lose a lost one", Edges::someOfAll, x -> x.lose(3), NULL);
        Edges.refuses("bad ahead of null: 4", Edges::nothing, x -> x.lose(4), BAD);
        Edges.refuses("bad ahead of null: -1", Edges::nothing, x -> x.lose(-1), BAD);
    }

    // ---- promises 32 and 33

    @Edge(promise = 32, sentence = PUT)
    static void putRefuses() {
        Edges.range("put, sheet", 0, 3, (x, v) -> x.put(v, 0, 0, 9));
        Edges.range("put, form", 0, 2, (x, v) -> x.put(0, v, 0, 9));
        for (int form = 0; form < 3; form++) {
            int f = form;
            Edges.refuses("put to a lost one", Edges::someOfAll, x -> x.put(3, f, 0, 9), NULL);
            Edges.refuses("null ahead of index", Edges::someOfAll, x -> x.put(3, f, -1, 9), NULL);
            for (int s = 0; s < 3; s++) {
                int sheet = s;
                if (s == f) continue;
                Edges.refuses("put to another form", Edges::someOfAll, x -> x.put(sheet, f, 0, 9), CAST);
                Edges.refuses("cast ahead of index: -1", Edges::someOfAll, x -> x.put(sheet, f, -1, 9), CAST);
                Edges.refuses("cast ahead of index: 60", Edges::someOfAll, x -> x.put(sheet, f, 60, 9), CAST);
            }
        }
        int[] size = {4, 3, 5};
        for (int s = 0; s < 3; s++) {
            int sheet = s;
            for (int i : new int[] {LEAST, -1, size[s], size[s] + 1, 59, 60, 61, 256, MOST}) {
                Edges.refuses("put to item " + i, Edges::someOfAll, x -> x.put(sheet, sheet, i, 9), INDEX);
            }
        }
        for (int bad : new int[] {-1, 4}) {
            Edges.refuses("bad ahead of all: sheet", Edges::someOfAll, x -> x.put(bad, 1, -1, 9), BAD);
        }
        for (int bad : new int[] {-1, 3}) {
            Edges.refuses("bad ahead of null: form", Edges::someOfAll, x -> x.put(3, bad, -1, 9), BAD);
            Edges.refuses("bad ahead of cast and index: form", Edges::someOfAll, x -> x.put(0, bad, -1, 9), BAD);
        }
        Edges.refuses("no item of an empty sheet", x -> x.sheet(0, 0, 0), x -> x.put(0, 0, 0, 9), INDEX);
    }

    @Edge(promise = {32, 33}, sentence = {"becomes v (the lowest bits that it has): 1.", "0 bytes, 1 shorts, 2 ints"})
    static void putKeepsTheLowestBits() {
        int[] values = {0, 1, -1, 127, 128, 129, 255, 256, -128, -129, 32767, 32768, 32769, 65535, 65536, -32768, -32769, 0x12345678, LEAST, LEAST + 1, MOST};
        for (int v : values) {
            WallHands x = new WallHands();
            for (int form = 0; form < 3; form++) {
                x.sheet(form, form, 3);
                due("put", x.put(form, form, 1, v), 1);
            }
            due("byte of " + v, x.get(0, 0, 1), (byte) v);
            due("short of " + v, x.get(1, 1, 1), (short) v);
            due("int of " + v, x.get(2, 2, 1), v);
            for (int form = 0; form < 3; form++) due("those beside it", x.get(form, form, 0) + x.get(form, form, 2), 0);
            due("no finding", x.count(8), 0);
        }
        WallHands most = new WallHands();
        for (int form = 0; form < 3; form++) {
            most.sheet(3, form, 60);
            for (int i = 0; i < 60; i += 59) {
                due("put to item " + i + " of 60", most.put(3, form, i, i + 1), 1);
                due("item " + i + " of 60", most.get(3, form, i), i + 1);
            }
        }
    }

    @Edge(promise = 33, sentence = GET)
    static void getRefuses() {
        WallHands four = Edges.made(EdgesOfSheetsTest::rows);
        int[] form = {0, 0, 1, 2}, first = {1, 7, 1, 1}, size = {4, 3, 5};
        for (int s = 0; s < 4; s++) due("the first item of sheet " + s, four.get(s, form[s], 0), first[s]);
        for (int bad : new int[] {-1, 4, LEAST, MOST}) finds("bad sheet", x -> x.get(bad, 0, 0), 0);
        for (int bad : new int[] {-1, 3, LEAST, MOST}) {
            finds("bad form", x -> x.get(0, bad, 0), 0);
            finds("bad form ahead of null", x -> x.get(3, bad, 0), 0);
            finds("bad form ahead of index", x -> x.get(0, bad, -1), 0);
        }
        for (int treated = 0; treated < 3; treated++) {
            int f = treated;
            finds("null", x -> x.get(3, f, 0), 1);
            finds("null ahead of index", x -> x.get(3, f, -1), 1);
            for (int s = 0; s < 3; s++) {
                int sheet = s;
                if (s == f) continue;
                finds("cast", x -> x.get(sheet, f, 0), 3);
                finds("cast ahead of index", x -> x.get(sheet, f, -1), 3);
                finds("cast ahead of index", x -> x.get(sheet, f, 60), 3);
            }
            for (int i : new int[] {LEAST, -1, size[f], size[f] + 1, 59, 60, MOST}) finds("index " + i, x -> x.get(f, f, i), 2);
            for (int i = 0; i < size[f]; i++) {
                int item = i;
                Edges.leaves("an item", Edges::someOfAll, x -> x.get(f, f, item), Edges.made(Edges::someOfAll).get(f, f, item), 0);
            }
        }
        WallHands empty = new WallHands();
        empty.sheet(0, 0, 0);
        due("no item of an empty sheet", empty.get(0, 0, 0), LEAST);
        due("that is an INDEX", empty.count(8), 2);
    }

    @Edge(promise = 33, sentence = "(count() 8 tells)")
    static void theLeastIntMayAlsoBeAnItem() {
        WallHands x = new WallHands();
        x.sheet(0, 2, 1);
        x.put(0, 2, 0, LEAST);
        due("an item", x.get(0, 2, 0), LEAST);
        due("no finding", x.count(8), 0);
        due("no item", x.get(0, 2, 1), LEAST);
        due("a finding", x.count(8), 2);
        due("bad", x.get(4, 2, 0), LEAST);
        due("the finding before", x.count(8), 2);
    }

    // ---- promise 34

    @Edge(promise = 34, sentence = COPY)
    static void copyRefusesInOrder() {
        Edges.range("copy, s", 0, 3, (x, v) -> x.copy(v, 0, 0, 0, 1));
        Edges.range("copy, t", 0, 3, (x, v) -> x.copy(0, 0, v, 0, 1));
        Edges.refuses("bad ahead of null: s", Edges::nothing, x -> x.copy(4, -1, 0, -1, -1), BAD);
        Edges.refuses("bad ahead of null: t", Edges::nothing, x -> x.copy(0, -1, -1, -1, -1), BAD);
        Edges.refuses("bad t ahead of null s", Edges::someOfAll, x -> x.copy(3, 0, 4, 0, 1), BAD);
        Edges.refuses("bad s ahead of null t", Edges::someOfAll, x -> x.copy(-1, 0, 3, 0, 1), BAD);
        Edges.refuses("null s", EdgesOfSheetsTest::twoBytesAndLost, x -> x.copy(1, 0, 0, 0, 1), NULL);
        Edges.refuses("null t", EdgesOfSheetsTest::twoBytesAndLost, x -> x.copy(0, 0, 1, 0, 1), NULL);
        Edges.refuses("null both", EdgesOfSheetsTest::twoBytesAndLost, x -> x.copy(1, 0, 3, 0, 0), NULL);
        Edges.refuses("null the same", EdgesOfSheetsTest::twoBytesAndLost, x -> x.copy(1, 0, 1, 0, 0), NULL);
        Edges.refuses("null s ahead of index", EdgesOfSheetsTest::twoBytesAndLost, x -> x.copy(1, -1, 0, -1, -1), NULL);
        Edges.refuses("null t ahead of index", EdgesOfSheetsTest::twoBytesAndLost, x -> x.copy(2, 9, 1, 9, 9), NULL);
        Edges.refuses("null, and n is 0", EdgesOfSheetsTest::twoBytesAndLost, x -> x.copy(0, 0, 1, 0, 0), NULL);
        for (int s = 0; s < 3; s++) {
            for (int t = 0; t < 3; t++) {
                int from = s, to = t;
                if (s == t) continue;
                Edges.refuses("store", Edges::someOfAll, x -> x.copy(from, 0, to, 0, 1), STORE);
                Edges.refuses("store, and n is 0", Edges::someOfAll, x -> x.copy(from, 0, to, 0, 0), STORE);
                Edges.refuses("store ahead of index", Edges::someOfAll, x -> x.copy(from, -1, to, 99, -1), STORE);
            }
        }
    }

    @Edge(promise = 34, sentence = "INDEX: below 0, not so many.")
    static void copyBeyondTheEnds() {
        int[][] beyond = {{-1, 0, 1}, {0, -1, 1}, {0, 0, -1}, {-1, 0, 0}, {0, -1, 0}, {6, 0, 0}, {0, 4, 0}, {5, 0, 1}, {0, 3, 1},
            {3, 0, 3}, {0, 1, 3}, {0, 0, 4}, {0, 0, 6}, {LEAST, 0, 1}, {0, LEAST, 1}, {0, 0, LEAST}, {MOST, 0, 1}, {0, MOST, 1},
            {0, 0, MOST}, {1, 1, MOST}, {MOST, MOST, MOST}, {MOST, 0, MOST}, {1, 0, MOST}, {LEAST, LEAST, LEAST}, {5, 3, MOST}};
        for (int[] v : beyond) {
            String of = "from " + v[0] + " to " + v[1] + ", " + v[2];
            Edges.refuses(of, EdgesOfSheetsTest::rows, x -> x.copy(0, v[0], 1, v[1], v[2]), INDEX);
        }
        Edges.refuses("one too many, the same", EdgesOfSheetsTest::rows, x -> x.copy(0, 0, 0, 1, 5), INDEX);
        Edges.refuses("t has one less", EdgesOfSheetsTest::rows, x -> x.copy(0, 0, 1, 0, 4), INDEX);
        Edges.refuses("s has one less", EdgesOfSheetsTest::rows, x -> x.copy(1, 0, 0, 0, 4), INDEX);
        Edges.leaves("none, from the end to the end", EdgesOfSheetsTest::rows, x -> x.copy(0, 5, 1, 3, 0), 1, 0);
        Edges.leaves("none, from the first", EdgesOfSheetsTest::rows, x -> x.copy(0, 0, 1, 0, 0), 1, 0);
        Edges.leaves("none of empty ones", x -> {
            x.sheet(0, 1, 0);
            x.sheet(1, 1, 0);
        }, x -> x.copy(0, 0, 1, 0, 0), 1, 0);
        Edges.refuses("one of empty ones", x -> {
            x.sheet(0, 1, 0);
            x.sheet(1, 1, 0);
        }, x -> x.copy(0, 0, 1, 0, 1), INDEX);
    }

    @Edge(promise = 34, sentence = "n items of SHEET s, from i on, come to SHEET t (perhaps s, as they were), from j on: 1.")
    static void copyAllAndWithinOne() {
        WallHands x = new WallHands();
        rows(x);
        due("as many as t has", x.copy(0, 2, 1, 0, 3), 1);
        items("t", x, 1, 0, 3, 4, 5);
        items("s is as it was", x, 0, 0, 1, 2, 3, 4, 5);
        due("one, to the last", x.copy(0, 0, 1, 2, 1), 1);
        items("t", x, 1, 0, 3, 4, 1);
        int[] form = {0, 0, 1, 2};
        for (int s : new int[] {0, 2, 3}) {
            due("up", x.copy(s, 0, s, 1, 4), 1);
            items("as they were", x, s, form[s], 1, 1, 2, 3, 4);
            due("down", x.copy(s, 1, s, 0, 4), 1);
            items("as they were", x, s, form[s], 1, 2, 3, 4, 4);
            due("by two up", x.copy(s, 0, s, 2, 3), 1);
            items("as they were", x, s, form[s], 1, 2, 1, 2, 3);
            due("all onto themselves", x.copy(s, 0, s, 0, 5), 1);
            items("as they were", x, s, form[s], 1, 2, 1, 2, 3);
        }
        WallHands most = new WallHands();
        most.sheet(0, 2, 60);
        most.sheet(1, 2, 60);
        for (int i = 0; i < 60; i++) most.put(0, 2, i, LEAST + i);
        due("all sixty", most.copy(0, 0, 1, 0, 60), 1);
        for (int i = 0; i < 60; i++) due("item " + i, most.get(1, 2, i), LEAST + i);
        due("no finding", most.count(8), 0);
        most.put(0, 2, 0, 5);
        due("a copy is another row", most.get(1, 2, 0), LEAST);
    }

    // ---- promise 35

    @Edge(promise = 35, sentence = {"as many as there are items and COLUMNS: how many. BAD; NULL.", "YEARS are 0 to 19."})
    static void writeRefuses() {
        Edges.range("write, year", 0, 19, (x, v) -> x.write(v, 0));
        Edges.range("write, sheet", 0, 3, (x, v) -> x.write(0, v));
        Edges.refuses("write to a lost one", Edges::someOfAll, x -> x.write(0, 3), NULL);
        Edges.refuses("write to a lost one at first", Edges::nothing, x -> x.write(19, 0), NULL);
        Edges.refuses("bad ahead of null: year -1", Edges::someOfAll, x -> x.write(-1, 3), BAD);
        Edges.refuses("bad ahead of null: year 20", Edges::someOfAll, x -> x.write(20, 3), BAD);
        Edges.refuses("bad ahead of null: sheet 4", Edges::nothing, x -> x.write(0, 4), BAD);
        Edges.refuses("bad ahead of null: sheet -1", Edges::nothing, x -> x.write(0, -1), BAD);
    }

    @Edge(promise = 35, sentence = "How HIGH COLUMNS 0 on are behind a YEAR comes to a SHEET from item 0 on, as many as there are items and COLUMNS: how many.")
    static void writeAsManyAsThereAre() {
        // column k is k + 1 high, but not more than 5
        String stairs = "aaaaaaaa;.aaaaaaa;..aaaaaa;...aaaaa;....aaaa";
        for (int form = 0; form < 3; form++) {
            for (int n : new int[] {0, 1, 7, 8, 9, 60}) {
                WallHands x = Edges.wall(stairs, "p9");
                x.sheet(2, form, n);
                for (int i = 0; i < n; i++) x.put(2, form, i, 99);
                due("eight columns, " + n + " items", x.write(0, 2), Math.min(8, n));
                for (int i = 0; i < n; i++) due("item " + i, x.get(2, form, i), i < 8 ? Math.min(5, i + 1) : 99);
            }
        }
        WallHands one = Edges.wall("a", "p9");
        Edges.fill(one, 0, 0, 7, 7);
        due("one column", one.write(0, 0), 1);
        items("one", one, 0, 0, 1, 7);
        Edges.leaves("no columns", x -> Edges.fill(x, 0, 0, 7, 7), x -> x.write(0, 0), 0, 0);
        for (String none : new String[] {"", "a;", "x"}) {
            Edges.leaves("no columns any more: '" + none + "'", x -> {
                Edges.someOfAll(x);
                x.wipe(0);
                Edges.tell(x, 0, none);
            }, x -> x.write(0, 0), 0, 0);
        }
        Edges.leaves("no items", x -> {
            Edges.someOfAll(x);
            x.sheet(3, 2, 0);
        }, x -> x.write(0, 3), 0, 0);
        WallHands fallen = Edges.wall("a;a", "p1");
        fallen.frost(19, 3);
        Edges.fill(fallen, 1, 2, 7);
        due("behind year 18", fallen.write(18, 1) + fallen.get(1, 2, 0), 1 + 2);
        due("behind year 19", fallen.write(19, 1) + fallen.get(1, 2, 0), 1);
    }

    // ---- promise 36

    @Edge(promise = 36, sentence = {"0 STONES as told, 1 HANDS, 2, 3 bytes of texts, 4 FROSTS, 5 GAPPINGS, 6 STONES that FALL in all YEARS, 7 SEEN",
        "8 the number of the latest FINDING (0 before any). BAD."})
    static void countOfNoneAndOfAll() {
        Edges.range("count", 0, 8, (x, v) -> x.count(v));
        for (int what = 0; what <= 8; what++) {
            int w = what;
            Edges.onlyAsks("count " + w, x -> x.count(w));
            due("count " + w + " at first", new WallHands().count(w), 0);
        }
        WallHands full = Edges.made(Edges::allFull);
        int[] want = {40, 8, 44, 23, 6, 6};
        for (int what = 0; what < want.length; what++) due("count " + what + " of all full", full.count(what), want[what]);
        due("count 7 of all full", full.count(7), 8);
        WallHands all = Edges.wall(Edges.even('a', 5, 8).toString(), "");
        all.frost(0, 1);
        for (int i = 0; i < 5; i++) {
            all.frost(i + 1, 1);
            all.gapping(i, i, 0);
        }
        due("all that fall", all.count(6), 45);
        due("stones as told", all.count(0), 40);
        due("the same by years", all.falls(0) + all.falls(1) + all.falls(2) + all.falls(3) + all.falls(4) + all.falls(5), 45);
        due("dots are no stones", Edges.wall("a.;..", "").count(0), 1);
    }

    @Edge(promise = 36, sentence = {FINDINGS, "8 the number of the latest FINDING (0 before any)",
        "1 NULL: the SHEET is LOST; 2 INDEX: there is no such item; 3 CAST: it has another FORM; 4 STORE: unlike FORMS; 5 SIZE: below 0."})
    static void countOfTheLatestFinding() {
        WallHands x = new WallHands();
        due("before any", x.count(8), 0);
        x.sheet(0, 0, 1);
        x.sheet(1, 1, 1);
        due("still before any", x.count(8), 0);
        Edges.Call[] calls = {y -> y.lose(2), y -> y.put(0, 0, 1, 0), y -> y.put(0, 1, 0, 0), y -> y.copy(0, 0, 1, 0, 1), y -> y.sheet(0, 0, -1)};
        for (int before = 0; before < 5; before++) {
            for (int then = 0; then < 5; then++) {
                due("finding", calls[before].on(x), -11 - before);
                due("its number", x.count(8), before + 1);
                due("finding", calls[then].on(x), -11 - then);
                due("the latest", x.count(8), then + 1);
            }
        }
        x.put(0, 0, 0, 1);
        x.type(0, 300);
        x.sheet(9, 9, 9);
        x.undo(0);
        x.wipe(0);
        due("what finds nothing leaves it", x.count(8), 5);
    }

    @Edge(promise = {2, 4, 9, 10, 11, 12, 23, 30, 31, 32, 33, 34, 35}, sentence = {
        "Refusals, the first that fits, in the order told at each act: BAD -2 (a number not as told, no such thing), NULL, NOT -3 (as told), FULL -4, other FINDINGS.",
        "They change nothing (FINDINGS but count() 8)."})
    static void refusalsHaveTheirNumbers() {
        due("NONE", WallHands.NONE, -1);
        due("BAD", WallHands.BAD, -2);
        due("NOT", WallHands.NOT, -3);
        due("FULL", WallHands.FULL, -4);
        due("bad", new WallHands().type(2, 0), -2);
        due("not", new WallHands().undo(0), -3);
        due("not", new WallHands().back(1), -3);
        WallHands full = Edges.made(Edges::allFull);
        due("full", full.type(0, 0), -4);
        due("full", full.frost(0, 1), -4);
        due("full", full.gapping(0, 0, 0), -4);
        due("full", full.seen(0, 0, 0, 0), -4);
        due("bad as a long", full.luck(17, 0), -9223372036854775806L);
    }

    // ---- promise 37

    @Edge(promise = 37, sentence = {"h is 17; h becomes 31 h and each of: count() 0 to 7; of texts fault()",
        "of COURSES 0 to 4, of COLUMNS 0 to 7 stone(), at(0, it, 0 and 1), at(19, it, 0 and 1), lift()",
        "of COLUMNS that there are column(9, it, 0 and 1), column(19, it, 0 and 1); of YEARS falls()",
        "of HANDS hand() 0, 1, mine(), firm(), relay() 0, 1, was() 0, 1, ask()",
        "sheep() 0, 1, best(), mend(5, 0 to 2), never(), luck(5), above, below, ages(7, 5, 0 and 1); as longs that wrap."})
    static void digestOfNoneAndOfAll() {
        Edges.onlyAsks("digest", x -> x.digest());
        due("of a new object", new WallHands().digest(), digestOf(x -> { }, 0));
        due("of some", Edges.made(Edges::someOfAll).digest(), digestOf(Edges::someOfAll, 3));
        due("of all full", Edges.made(Edges::allFull).digest(), digestOf(Edges::allFull, 8));
        for (String faulty : new String[] {"a;", "x"}) {
            due("with a fault", Edges.wall(faulty, "p1;t2").digest(), digestOf(x -> tell(x, faulty, "p1;t2"), 0));
            due("with faults", Edges.wall(faulty, "p").digest(), digestOf(x -> tell(x, faulty, "p"), 0));
        }
        due("one column, no hands", Edges.wall("a;.;b", "").digest(), digestOf(x -> tell(x, "a;.;b", ""), 1));
        due("no wall, hands", Edges.wall("", "p1;t2").digest(), digestOf(x -> tell(x, "", "p1;t2"), 0));
    }

    @Edge(promise = 37, sentence = {"at(0, it, 0 and 1), at(19, it, 0 and 1)", "column(9, it, 0 and 1), column(19, it, 0 and 1)",
        "mend(5, 0 to 2)", "luck(5), above, below", "ages(7, 5, 0 and 1)"})
    static void digestOfTheYearsThatAreNamed() {
        due("each year something happens", Edges.made(EdgesOfSheetsTest::manyYears).digest(), digestOf(EdgesOfSheetsTest::manyYears, 6));
        due("sheep get through here and there", Edges.made(EdgesOfSheetsTest::sheepHereAndThere).digest(), digestOf(EdgesOfSheetsTest::sheepHereAndThere, 2));
        due("a mending of year 5", Edges.made(EdgesOfSheetsTest::toMend).digest(), digestOf(EdgesOfSheetsTest::toMend, 2));
        due("seed 7, five frosts", Edges.made(EdgesOfSheetsTest::toAge).digest(), digestOf(EdgesOfSheetsTest::toAge, 2));
    }

    /** Stones fall or are set in years 0, 1, 8, 9, 10, 18 and 19. */
    private static void manyYears(WallHands x) {
        tell(x, "aabbcd;ddccba;aabbcd", "p4;t8;l5;p7");
        int[][] frosts = {{0, 4}, {1, 5}, {9, 6}, {10, 7}, {18, 8}, {19, 9}};
        for (int[] frost : frosts) x.frost(frost[0], frost[1]);
        int[][] gappings = {{0, 2, 1}, {8, 3, 0}, {9, 1, 3}, {10, 4, 2}, {18, 5, 1}, {19, 0, 1}};
        for (int[] gapping : gappings) x.gapping(gapping[0], gapping[1], gapping[2]);
    }

    /** Column 0 is closed behind year 9 alone of those beside it, column 1 is open behind year 19 alone. */
    private static void sheepHereAndThere(WallHands x) {
        tell(x, "a.;a.", "p1;p3");
        x.frost(8, 3);
        x.gapping(9, 0, 1);
        x.frost(10, 4);
        x.gapping(18, 1, 0);
        x.frost(19, 2);
        x.jump(1);
    }

    /** Mended in year 5: column 1, hand 2, sheep behind 19 years; in years 4 and 6: column 0, hand 0, behind 20. */
    private static void toMend(WallHands x) {
        tell(x, "ca", "l2;l9;t5");
        x.frost(6, 8);
        x.frost(5, 3);
        x.jump(1);
    }

    /** By seed 7 the frosts are 12 12, 8 10, 11 14, 14 6, 5 2; a sixth would be 13 7. */
    private static void toAge(WallHands x) {
        tell(x, "ab;a.", "p6;p1;p9");
        x.jump(1);
        x.gapping(12, 0, 0);
        x.gapping(12, 1, 2);
    }

    @Edge(promise = 37, sentence = "count() 0 to 7")
    static void digestLeavesSheetsAndFindingsOut() {
        WallHands x = Edges.made(Edges::someOfAll);
        long before = x.digest();
        x.lose(3);
        due("a finding", x.digest(), before);
        x.sheet(3, 0, 4);
        x.put(0, 0, 0, 77);
        x.lose(1);
        due("sheets", x.digest(), before);
    }

    private static void tell(WallHands x, String stones, String hands) {
        Edges.tell(x, 0, stones);
        Edges.tell(x, 1, hands);
    }

    /** A digest that grows, and is cut to 64 bits at its end alone; its calls go to more than one object. */
    private static final class Growing {
        final java.util.function.Consumer<WallHands> story;
        BigInteger h = BigInteger.valueOf(17);
        WallHands x;

        Growing(java.util.function.Consumer<WallHands> story) {
            this.story = story;
        }

        void anew() {
            x = Edges.made(story);
        }

        void and(long v) {
            h = h.multiply(BigInteger.valueOf(31)).add(BigInteger.valueOf(v));
        }
    }

    private static long digestOf(java.util.function.Consumer<WallHands> story, int columns) {
        Growing d = new Growing(story);
        d.anew();
        for (int what = 0; what < 8; what++) d.and(d.x.count(what));
        for (int text = 0; text < 2; text++) d.and(d.x.fault(text));
        for (int place = 0; place < 40; place++) {
            d.and(d.x.stone(place / 8, place % 8));
            for (int year = 0; year < 20; year += 19) {
                for (int what = 0; what < 2; what++) d.and(d.x.at(year, place / 8, place % 8, what));
            }
            d.and(d.x.lift(place / 8, place % 8));
        }
        d.anew();
        for (int column = 0; column < columns; column++) {
            for (int year = 9; year < 20; year += 10) {
                for (int what = 0; what < 2; what++) d.and(d.x.column(year, column, what));
            }
        }
        for (int year = 0; year < 20; year++) d.and(d.x.falls(year));
        andOfHands(d);
        for (int what = 0; what < 2; what++) d.and(d.x.sheep(what));
        d.and(d.x.best());
        for (int what = 0; what < 3; what++) d.and(d.x.mend(5, what));
        d.and(d.x.never());
        for (int what = 0; what < 2; what++) d.and(d.x.luck(5, what));
        for (int what = 0; what < 2; what++) d.and(d.x.ages(7, 5, what));
        return d.h.longValue();
    }

    private static void andOfHands(Growing d) {
        int hands = d.x.count(1);
        for (int hand = 0; hand < hands; hand++) {
            for (int what = 0; what < 2; what++) d.and(d.x.hand(hand, what));
            d.and(d.x.mine(hand));
            d.and(d.x.firm(hand));
            for (int what = 0; what < 2; what++) d.and(d.x.relay(hand, what));
            for (int what = 0; what < 2; what++) d.and(d.x.was(hand, what));
            d.and(d.x.ask(hand));
        }
    }
}
