/** Edges of promises 23 to 29: what was seen and what follows from it, luck, ages. */
public final class EdgesOfSeenTest {
    private static final int NONE = Edges.NONE, BAD = Edges.BAD, FULL = Edges.FULL;
    private static final String SEEN = "SEEN, 8 at most: behind a YEAR at a COURSE (0 to 4) and a COLUMN (0 to 7) there was a STONE of a HAND (0 to 7; 8: none; at a place that THE WALL has not: none).";

    public static void main(String[] args) throws Exception {
        Edges.run(EdgesOfSeenTest.class);
    }

    private static void due(String what, long got, long want) {
        Edges.due(what, got, want);
    }

    private static WallHands wall(String stones, String hands) {
        return Edges.wall(stones, hands);
    }

    private static void eightSeen(WallHands x) {
        for (int i = 0; i < 8; i++) x.seen(i, 0, 0, 8);
    }

    // ---- promise 23

    @Edge(promise = 23, sentence = SEEN)
    static void seenOfYearsPlacesAndHands() {
        Edges.range("seen, year", 0, 19, (x, v) -> x.seen(v, 0, 0, 0));
        Edges.range("seen, course", 0, 4, (x, v) -> x.seen(0, v, 0, 0));
        Edges.range("seen, column", 0, 7, (x, v) -> x.seen(0, 0, v, 0));
        Edges.range("seen, hand", 0, 8, (x, v) -> x.seen(0, 0, 0, v));
    }

    @Edge(promise = 23, sentence = {"SEEN more: how many. BAD; FULL.", "SEEN, 8 at most"})
    static void seenAreEightAtMost() {
        WallHands x = wall("a", "p5");
        x.frost(0, 1);
        for (int n = 1; n <= 8; n++) due("seen " + n, x.seen(n, 0, 0, 0), n);
        due("eight", x.count(7), 8);
        due("a ninth", x.seen(0, 0, 0, 8), FULL);
        due("the ninth is not", x.never(), 1);
        Edges.refuses("a ninth leaves all", Edges::allFull, y -> y.seen(0, 0, 0, 8), FULL);
        Edges.refuses("a ninth without a wall", EdgesOfSeenTest::eightSeen, y -> y.seen(0, 0, 0, 0), FULL);
        due("behind forget() there is room", x.forget() + x.seen(0, 0, 0, 8), 8 + 1);
        due("for that one", x.never(), 0);
    }

    @Edge(promise = 23, sentence = "SEEN more: how many. BAD; FULL.")
    static void seenIsBadAheadOfFull() {
        int[][] bad = {{-1, 0, 0, 0}, {20, 0, 0, 0}, {0, -1, 0, 0}, {0, 5, 0, 0}, {0, 0, -1, 0}, {0, 0, 8, 0}, {0, 0, 0, -1}, {0, 0, 0, 9}};
        for (int[] v : bad) {
            Edges.refuses("seen of eight", EdgesOfSeenTest::eightSeen, x -> x.seen(v[0], v[1], v[2], v[3]), BAD);
        }
    }

    @Edge(promise = {23, 25, 26}, sentence = "there was a STONE of a HAND (0 to 7; 8: none; at a place that THE WALL has not: none)")
    static void seenOfEachHandAndOfNone() {
        for (int there = 0; there <= 8; there++) {
            for (int seen = 0; seen <= 8; seen++) {
                WallHands x = wall(there == 8 ? "." : "" + (char) ('a' + there), Edges.FULL_HANDS);
                x.frost(0, 1);
                x.seen(19, 0, 0, seen);
                due("there " + there + ", seen " + seen, x.never(), there == seen ? 1 : 0);
                due("there " + there + ", seen " + seen + ": was", x.was(0, 0), there == seen ? 1022 : 0);
            }
        }
        int[][] beyond = {{0, 1}, {1, 0}, {4, 0}, {0, 7}, {4, 7}};
        for (int[] place : beyond) {
            WallHands x = wall("a", "p5");
            x.frost(0, 1);
            x.seen(0, place[0], place[1], 8);
            due("none at a place that the wall has not", x.never(), 1);
            x.seen(0, place[0], place[1], 0);
            due("one at a place that the wall has not", x.never(), 0);
        }
        WallHands none = new WallHands();
        none.frost(0, 1);
        none.seen(0, 0, 0, 8);
        due("none of no wall", none.never(), 1);
        none.seen(0, 0, 0, 0);
        due("one of no wall", none.never(), 0);
    }

    @Edge(promise = 23, sentence = "behind a YEAR at a COURSE (0 to 4) and a COLUMN (0 to 7) there was a STONE of a HAND")
    static void seenBehindEachYear() {
        for (int year = 0; year < 20; year++) {
            for (int seen = 0; seen < 20; seen++) {
                WallHands x = wall("a", "p1");
                x.frost(year, 1);
                x.frost(year, 2);
                x.seen(seen, 0, 0, 8);
                // without the second frost it stands behind every year
                due("fell in " + year + ", not there behind " + seen, x.never(), seen < year ? 0 : 1);
            }
        }
        WallHands places = wall(Edges.even('a', 5, 8).toString(), "p1");
        places.frost(0, 1);
        for (int course = 0; course < 5; course++) {
            for (int column = 0; column < 8; column++) {
                places.forget();
                places.seen(0, course, column, 0);
                due("a stone is there", places.never(), 1);
                places.seen(0, course, column, 8);
                due("and it is not none", places.never(), 0);
            }
        }
    }

    // ---- promise 24

    @Edge(promise = 24, sentence = "All SEEN are forgotten: how many.")
    static void forgetNoneToEight() {
        for (int n = 0; n <= 8; n++) {
            WallHands x = wall("a", "p1");
            x.frost(0, 1);
            for (int i = 0; i < n; i++) x.seen(0, 0, 0, 8);
            due("never", x.never(), n == 0 ? 1 : 0);
            due("forget " + n, x.forget(), n);
            due("none is left", x.count(7), 0);
            due("forget again", x.forget(), 0);
            due("nothing seen: all comes out so", x.never(), 1);
        }
    }

    // ---- promise 25

    @Edge(promise = 25, sentence = {"NEVER, as bits.", "NEVER: FROSTS each of which, had it alone not been, makes all that was SEEN come out so, as bits."})
    static void neverOfNoneToSixFrosts() {
        Edges.onlyAsks("never", x -> x.never());
        due("no frosts", new WallHands().never(), 0);
        for (int n = 1; n <= 6; n++) {
            WallHands x = wall("a", "p1");
            for (int i = 0; i < n; i++) x.frost(i, 1);
            due("nothing seen: all " + n, x.never(), (1 << n) - 1);
            x.seen(19, 0, 0, 0);
            due("what is so: all " + n, x.never(), (1 << n) - 1);
            x.seen(19, 0, 0, 8);
            due("what never is: none", x.never(), 0);
        }
        for (int i = 0; i < 6; i++) {
            WallHands x = wall("a", "p5");
            for (int j = 0; j < 6; j++) x.frost(j, j == i ? 6 : 5);
            x.seen(19, 0, 0, 0);
            due("the one that takes it is frost " + i, x.never(), 1 << i);
        }
    }

    @Edge(promise = 25, sentence = "had it alone not been")
    static void neverOfEachAlone() {
        WallHands x = wall("a", "p5");
        x.frost(3, 6);
        x.frost(3, 6);
        x.seen(19, 0, 0, 0);
        due("either of two takes it", x.never(), 0);
        x.forget();
        x.seen(19, 0, 0, 8);
        due("each may not have been", x.never(), 3);
        due("both are still told", x.count(4), 2);
        WallHands lucky = wall("ab", "t4;p1");
        lucky.frost(3, 2);
        lucky.frost(3, 4);
        lucky.seen(3, 0, 0, 8);
        due("without the first the second takes a", lucky.never(), 1);
        WallHands hanging = wall(".;a", "p1");
        hanging.frost(0, 1);
        hanging.seen(0, 1, 0, 8);
        due("what is not borne falls without it too", hanging.never(), 1);
    }

    // ---- promise 26

    @Edge(promise = 26, sentence = {"STRONG (what = 0), MOOD (1), as bits. BAD: it is not told.",
        "STRONG of a HAND: 1 to 9, in place of its own, likewise, as bits (bit 1 on)."})
    static void wasEachStrength() {
        for (int what = 0; what < 2; what++) {
            int w = what;
            Edges.rangeOfHandsTold("was", (x, v) -> x.was(v, w));
            Edges.onlyAsks("was", x -> x.was(1, w));
            due("of no hands", wall("a", "").was(0, w), BAD);
        }
        Edges.range("was, what", 0, 1, (x, v) -> x.was(0, v));
        for (int strong = 1; strong <= 9; strong++) {
            WallHands x = wall("a", "p5");
            x.frost(2, strong);
            x.frost(4, strong + 1);
            due("nothing seen: 1 to 9", x.was(0, 0), 1022);
            x.seen(2, 0, 0, 0);
            due("at least " + strong, x.was(0, 0), 1024 - (1 << strong));
            x.seen(4, 0, 0, 8);
            due("just " + strong, x.was(0, 0), 1 << strong);
            due("its own is as it was", x.hand(0, 1), 5);
        }
        WallHands stronger = wall("a", "p5");
        stronger.frost(2, 10);
        stronger.seen(2, 0, 0, 0);
        due("stronger than 9", stronger.was(0, 0), 0);
        WallHands weaker = wall("a", "p5");
        weaker.frost(2, 1);
        weaker.seen(2, 0, 0, 8);
        due("weaker than 1", weaker.was(0, 0), 0);
    }

    @Edge(promise = 26, sentence = "MOOD of a HAND: 0 p, 1 t, 2 l, 3 s, in place of its own, likewise, as bits.")
    static void wasEachMood() {
        for (String own : new String[] {"p4", "t4", "l4", "s4"}) {
            // in course 1 among a lover and two plain ones: p4 holds by 4, t4 by 1, l4 by 6, s4 by 3
            int[] holds = {4, 1, 6, 3};
            for (int force = 1; force <= 7; force++) {
                int stand = 0;
                for (int mood = 0; mood < 4; mood++) if (holds[mood] >= force) stand += 1 << mood;
                WallHands x = wall("ccc;bac", own + ";l9;p9");
                x.frost(8, force);
                due("nothing seen: all four", x.was(0, 1), 15);
                x.seen(8, 1, 1, 0);
                due(own + " stood against " + force, x.was(0, 1), stand);
                x.forget();
                x.seen(8, 1, 1, 8);
                due(own + " fell by " + force, x.was(0, 1), 15 - stand);
                due("its own is as it was", x.hand(0, 0), "ptls".indexOf(own.charAt(0)));
            }
        }
    }

    // ---- promise 27

    @Edge(promise = 27, sentence = "ASK. BAD: it is not told.")
    static void askOfHandsTold() {
        Edges.rangeOfHandsTold("ask", (x, v) -> x.ask(v));
        Edges.onlyAsks("ask", x -> x.ask(0));
        due("of no hands", wall("a", "").ask(0), BAD);
    }

    @Edge(promise = 27, sentence = {"ASK of a HAND: the YEAR behind which the greatest number of those STRENGTHS by which as many STONES stand is least, of like ones the least.",
        "YEARS are 0 to 19."})
    static void askEachYear() {
        for (int year = 0; year < 20; year++) {
            WallHands x = wall("a", "p1");
            x.frost(year, 5);
            due("the one frost parts them in year " + year, x.ask(0), year);
            due("its own is as it was", x.hand(0, 1), 1);
        }
        due("no wall", wall("", "p1").ask(0), 0);
        due("no frost: all years alike", wall("a", "p1").ask(0), 0);
        WallHands other = wall("ab", "p1;p1");
        other.frost(7, 5);
        due("a hand that set none", wall("ab", "p1;p1;p1").ask(2), 0);
        due("one of two", other.ask(1), 7);
    }

    @Edge(promise = 27, sentence = "is least, of like ones the least")
    static void askOfLikeOnes() {
        // 1 to 4 and 5 to 9: five at most; 1 to 5 and 6 to 9: five at most
        WallHands x = wall("a", "p1");
        x.frost(3, 5);
        x.frost(9, 6);
        due("two years alike", x.ask(0), 3);
        // 1 to 3 and 4 to 9: six at most, then five
        WallHands y = wall("a", "p1");
        y.frost(3, 4);
        y.frost(9, 5);
        due("the later one is better", y.ask(0), 9);
        WallHands later = wall("a", "p1");
        later.frost(18, 2);
        later.frost(19, 3);
        due("year 19 is the best", later.ask(0), 19);
        // behind 2: five of nine leave all three; behind 5: 1 to 4 none, 5 two, 6 to 9 three
        WallHands three = wall("a.aa", "p1");
        three.frost(2, 5);
        three.frost(5, 6);
        due("three groups are better than two", three.ask(0), 5);
    }

    @Edge(promise = 27, sentence = "the greatest number of those STRENGTHS by which as many STONES stand")
    static void askOfStrengthsThatComeOutSo() {
        WallHands x = wall("a", "p1");
        x.frost(3, 5);
        x.frost(9, 8);
        due("of all nine", x.ask(0), 3);
        x.seen(3, 0, 0, 0);
        due("of 5 to 9", x.ask(0), 9);
        x.seen(9, 0, 0, 0);
        due("of 8 and 9, which nothing parts", x.ask(0), 0);
        x.seen(9, 0, 0, 8);
        due("of none", x.ask(0), 0);
        WallHands one = wall("a", "p1");
        one.frost(3, 5);
        one.frost(4, 6);
        one.seen(3, 0, 0, 0);
        one.seen(4, 0, 0, 8);
        due("of 5 alone", one.ask(0), 0);
    }

    // ---- promise 28

    private static void lucks(String what, WallHands x, int c, long above, long below) {
        due(what + ": above", x.luck(c, 0), above);
        due(what + ": below", x.luck(c, 1), below);
    }

    @Edge(promise = 28, sentence = {"LUCK: above, below. BAD. (As the least long.)", "each of FROSTS is by c sixteenths (0 to 16), by itself",
        "Where the answer is a long, a refusal -x is the least long and x more."})
    static void luckOfEachChance() {
        long bad = Long.MIN_VALUE + 2;
        for (int what = 0; what < 2; what++) {
            int w = what;
            Edges.range("luck, c", 0, 16, (x, v) -> x.luck(v, w), bad);
            Edges.onlyAsks("luck", x -> x.luck(7, w));
        }
        Edges.range("luck, what", 0, 1, (x, v) -> x.luck(5, v), bad);
        for (int c = 0; c <= 16; c++) {
            WallHands x = wall("a;a", "p1");
            x.frost(19, 3);
            int below = 16;
            int above = 16 - c;
            while (above % 2 == 0 && below > 1) {
                above /= 2;
                below /= 2;
            }
            lucks("one frost by " + c, x, c, above, below);
        }
    }

    @Edge(promise = 28, sentence = {"FRACTIONS are told in lowest terms, above and below (0 by 1).", "the chance that SHEEP never get THROUGH: a FRACTION."})
    static void luckInLowestTerms() {
        WallHands never = wall("aa", "p1");
        lucks("0 by 1 without a frost", never, 5, 0, 1);
        for (int i = 0; i < 6; i++) never.frost(i, 1);
        for (int c = 0; c <= 16; c++) lucks("0 by 1 with six frosts", never, c, 0, 1);
        WallHands always = wall("a;a", "p1");
        lucks("1 by 1 without a frost", always, 16, 1, 1);
        for (int i = 0; i < 6; i++) always.frost(i, 2);
        for (int c = 0; c <= 16; c++) lucks("1 by 1 with six frosts", always, c, 1, 1);
        lucks("no columns", new WallHands(), 9, 1, 1);
        WallHands six = wall("a;a", "p1");
        for (int i = 0; i < 6; i++) six.frost(i, 3);
        lucks("six by 0", six, 0, 1, 1);
        lucks("six by 1", six, 1, 11390625, 16777216);
        lucks("six by 2", six, 2, 117649, 262144);
        lucks("six by 4", six, 4, 729, 4096);
        lucks("six by 8", six, 8, 1, 64);
        lucks("six by 15", six, 15, 1, 16777216);
        lucks("six by 16", six, 16, 0, 1);
    }

    @Edge(promise = 28, sentence = "LUCK: each of FROSTS is by c sixteenths (0 to 16), by itself: the chance that SHEEP never get THROUGH")
    static void luckOfFrostsThatWorkTogether() {
        // the frost of 2 takes b; then a holds against the frost of 4, which would else take it
        WallHands x = wall("ab;a.", "t4;p1");
        x.jump(1);
        x.frost(3, 2);
        x.gapping(3, 1, 0);
        lucks("b is mended at once", x, 3, 1, 1);
        WallHands both = wall("a;a", "p3");
        both.frost(3, 5);
        both.frost(4, 5);
        lucks("either of two", both, 4, 9, 16);
        WallHands saved = wall("ba", "t4;p2");
        saved.jump(1);
        saved.frost(3, 3);
        saved.gapping(3, 0, 0);
        saved.gapping(3, 1, 0);
        lucks("one year that is mended", saved, 7, 1, 1);
        WallHands once = wall("a;a", "p1");
        once.frost(19, 3);
        lucks("behind year 19 alone", once, 5, 11, 16);
        WallHands order = wall("bab", "t4;p1");
        order.jump(1);
        order.frost(0, 3);
        due("all three columns count", order.luck(16, 0), 0);
    }

    // ---- promise 29

    /** A seed, and the year and the force of each of its six frosts, reckoned apart in Python. */
    private static final int[][] LOTS = {
        {0, 0, 12, 16, 1, 18, 1, 5, 10, 10, 11, 9, 8},
        {1, 18, 7, 13, 4, 19, 11, 18, 3, 0, 7, 9, 3},
        {-1, 17, 15, 2, 12, 13, 5, 8, 2, 0, 15, 13, 13},
        {7, 12, 12, 8, 10, 11, 14, 14, 6, 5, 2, 13, 7},
        {Edges.MOST, 9, 8, 10, 4, 1, 12, 0, 9, 12, 8, 1, 5},
        {Edges.LEAST, 8, 4, 8, 8, 6, 8, 13, 2, 2, 4, 1, 1},
        {65536, 17, 15, 9, 9, 11, 6, 18, 10, 3, 2, 2, 15},
        {-65536, 19, 8, 3, 7, 1, 10, 8, 10, 17, 6, 16, 1},
        {777, 0, 6, 9, 11, 14, 12, 2, 3, 2, 2, 0, 9}};

    @Edge(promise = 29, sentence = {"AGES by a SEED: n FROSTS (0 to 6), in place of those told: of each a LOT of 20 (its YEAR), a LOT of 15 and 1 (its FORCE)",
        "LOTS of m: SEED becomes 1103515245 SEED and 12345, as ints that wrap; its upper 16 bits as a number from 0 on, modulo m."})
    static void agesOfSeedsThatWrap() {
        String[][] walls = {{"abc;abc;abc", "p7;p4;p9"}, {"aab;bab;.c.", "p4;t6;l3"}, {"hgfedcba;abcdefgh", Edges.FULL_HANDS}, {"a;a", "p1"}, {"h", "p1"}};
        for (int[] row : LOTS) {
            for (String[] wall : walls) {
                for (int n = 0; n <= 6; n++) {
                    WallHands x = wall(wall[0], wall[1]), told = wall(wall[0], wall[1]);
                    for (int i = 0; i < n; i++) told.frost(row[1 + 2 * i], row[2 + 2 * i]);
                    for (WallHands y : new WallHands[] {x, told}) y.gapping(10, 0, 0);
                    int stand = 0;
                    for (int hand = 0; hand < 8; hand++) stand += told.mine(hand);
                    due("seed " + row[0] + ", " + n + ": how many stand", x.ages(row[0], n, 0), stand);
                    due("seed " + row[0] + ", " + n + ": sheep", x.ages(row[0], n, 1), told.sheep(1));
                }
            }
        }
    }

    @Edge(promise = 29, sentence = "of each a LOT of 20 (its YEAR), a LOT of 15 and 1 (its FORCE)")
    static void agesOfTheLeastAndTheGreatestLots() {
        // a seed, the year and the force of its first frost
        int[][] first = {{26, 0, 8}, {59, 0, 6}, {88, 19, 6}, {116, 19, 9}, {6, 14, 1}, {24, 3, 1}, {15, 6, 9}, {85, 0, 3}};
        for (int[] row : first) {
            WallHands stands = wall("a", "p" + row[2]);
            stands.jump(1);
            due("seed " + row[0] + ": what holds by its force", stands.ages(row[0], 1, 0), 1);
            due("seed " + row[0] + ": no sheep", stands.ages(row[0], 1, 1), 0);
            WallHands falls = row[2] == 1 ? wall("h", "p1") : wall("a", "p" + (row[2] - 1));
            falls.jump(1);
            due("seed " + row[0] + ": what holds by one less", falls.ages(row[0], 1, 0), 0);
            due("seed " + row[0] + ": sheep from its year on", falls.ages(row[0], 1, 1), 20 - row[1]);
        }
    }

    @Edge(promise = 29, sentence = {"AGES: how many (what = 0), behind how many YEARS (1). BAD.", "n FROSTS (0 to 6), in place of those told",
        "how many STONES stand behind YEAR 19; behind how many YEARS SHEEP get THROUGH."})
    static void agesOfNoneToSixFrosts() {
        for (int what = 0; what < 2; what++) {
            int w = what;
            Edges.range("ages, n", 0, 6, (x, v) -> x.ages(1, v, w));
            Edges.onlyAsks("ages", x -> x.ages(7, 5, w));
            for (int seed : new int[] {Edges.LEAST, -1, 0, 1, Edges.MOST}) {
                due("any seed is taken", new WallHands().ages(seed, 6, w), 0);
            }
        }
        Edges.range("ages, what", 0, 1, (x, v) -> x.ages(1, 1, v));
        WallHands x = wall(Edges.even('a', 5, 8).toString(), "p1");
        x.frost(0, 15);
        due("no frosts in place of those told: all stand", x.ages(3, 0, 0), 40);
        due("no frosts in place of those told: no sheep", x.ages(3, 0, 1), 0);
        due("those told are as they were", x.falls(0), 40);
        due("all fall", x.ages(-1, 1, 0), 0);
        due("from year 17 on", x.ages(-1, 1, 1), 3);
        WallHands gapped = wall(".;.", "p1");
        gapped.gapping(19, 0, 0);
        gapped.gapping(19, 0, 0);
        due("gappings are as told: how many", gapped.ages(0, 0, 0), 2);
        due("gappings are as told: sheep", gapped.ages(0, 0, 1), 19);
        WallHands again = wall("a", "p9");
        due("six by seed 0", again.ages(0, 6, 0), 0);
        due("none behind that", again.ages(0, 0, 0), 1);
        due("one behind that, of force 7", again.ages(1, 1, 0), 1);
    }
}
