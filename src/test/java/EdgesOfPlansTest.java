/** Edges of promises 19 to 22: mend, firm, relay, lift. */
public final class EdgesOfPlansTest {
    private static final int NONE = Edges.NONE, BAD = Edges.BAD;
    private static final String MEND = "MEND: the COLUMN (what = 0), the HAND (1), behind how many (2); NONE: no COLUMNS, or no HANDS. BAD.";
    private static final String RELAY = "RELAY: which (what = 0), how many (1); NONE. BAD: it is not told.";

    public static void main(String[] args) throws Exception {
        Edges.run(EdgesOfPlansTest.class);
    }

    private static void due(String what, long got, long want) {
        Edges.due(what, got, want);
    }

    private static WallHands wall(String stones, String hands) {
        return Edges.wall(stones, hands);
    }

    private static void mends(String what, WallHands x, int year, int column, int hand, int years) {
        due(what + ": the column", x.mend(year, 0), column);
        due(what + ": the hand", x.mend(year, 1), hand);
        due(what + ": behind how many", x.mend(year, 2), years);
    }

    private static void relays(String what, WallHands x, int hand, int which, int fall) {
        due(what + ": which", x.relay(hand, 0), which);
        due(what + ": how many", x.relay(hand, 1), fall);
    }

    // ---- promise 19

    @Edge(promise = 19, sentence = {MEND, "YEARS are 0 to 19."})
    static void mendOfEachYear() {
        for (int what = 0; what < 3; what++) {
            int w = what;
            Edges.range("mend, year", 0, 19, (x, v) -> x.mend(v, w));
            Edges.onlyAsks("mend", x -> x.mend(9, w));
        }
        Edges.range("mend, what", 0, 2, (x, v) -> x.mend(0, v));
        for (int year = 0; year < 20; year++) {
            mends("a hole, in year " + year, wall("aaa;a.a", "p5"), year, 1, 0, year);
        }
    }

    @Edge(promise = 19, sentence = {MEND, "the COLUMN; the HAND; behind how many; NONE: there are none."})
    static void mendOfNone() {
        mends("nothing", new WallHands(), 0, NONE, NONE, NONE);
        mends("no columns", wall("", "p1"), 19, NONE, NONE, NONE);
        mends("no hands", wall("a", ""), 19, NONE, NONE, NONE);
        mends("a wall with a fault", wall("a;", "p1"), 0, NONE, NONE, NONE);
        mends("hands with a fault", wall("a", "p"), 0, NONE, NONE, NONE);
        for (int what = 0; what < 3; what++) {
            due("bad ahead of none: year -1", new WallHands().mend(-1, what), BAD);
            due("bad ahead of none: year 20", new WallHands().mend(20, what), BAD);
        }
        due("bad ahead of none: what -1", new WallHands().mend(0, -1), BAD);
        due("bad ahead of none: what 3", new WallHands().mend(0, 3), BAD);
        mends("no stones, but columns", wall("..", "t1"), 0, 0, 0, 20);
    }

    @Edge(promise = 19, sentence = "MEND for a YEAR: a GAPPING more of it, behind all others (whatever room)")
    static void mendWhateverRoom() {
        WallHands x = wall("aaaaaaaa;aaaaaaa.", "p5;p5");
        for (int told = 0; told <= 6; told++) {
            mends("with " + told + " gappings", x, 3, 7, 0, 3);
            due("as many gappings", x.count(5), told);
            due("one more, or full", x.gapping(3, 0, 1), told < 6 ? told + 1 : Edges.FULL);
        }
        due("the gap is still there", x.column(19, 7, 0), 1);
    }

    @Edge(promise = 19, sentence = "a GAPPING more of it, behind all others (whatever room)")
    static void mendComesBehindTheYearsOthers() {
        // two places are left in year 3, and both are taken ahead of one that would close the wall
        WallHands x = wall("a;.;.", "p1;t1");
        x.jump(5);
        mends("with room", x, 3, 0, 1, 3);
        x.gapping(3, 0, 0);
        mends("with one place left", x, 3, 0, 1, 3);
        x.gapping(3, 0, 0);
        mends("without a place", x, 3, 0, 0, 20);
        mends("the year before", x, 2, 0, 1, 2);
    }

    @Edge(promise = 19, sentence = "by a HAND that is told, by which SHEEP get THROUGH behind fewest YEARS")
    static void mendByAHandThatIsTold() {
        // a stone of any hand but a lover's would do, and only a lover is told
        mends("a lover alone", wall("h;.", "l5"), 0, 0, 0, 20);
        mends("a plain one too", wall("h;.", "l5;p1"), 0, 0, 1, 0);
        mends("an eighth hand", wall("hhhhhhhh;hhhhhhh.", "l1;l1;l1;l1;l1;l1;l1;p9"), 0, 7, 7, 0);
        WallHands frosty = wall("aa;ba", "p9;p1");
        frosty.frost(0, 5);
        frosty.frost(10, 5);
        mends("the one that lasts", frosty, 0, 0, 0, 0);
        WallHands turned = wall("bb;ab", "p1;p9");
        turned.frost(0, 5);
        turned.frost(10, 5);
        mends("the one that lasts, though not the least", turned, 0, 0, 1, 0);
    }

    @Edge(promise = 19, sentence = "of like ones the least COLUMN (that there is), then the least HAND")
    static void mendOfLikeOnes() {
        for (int columns = 1; columns <= 8; columns++) {
            mends("all alike", wall(Edges.even('a', 2, columns).toString(), Edges.FULL_HANDS), 0, 0, 0, 0);
        }
        // one more a above the b in a temper lets it fall; a b there does not, nor an a in column 1
        WallHands x = wall("ba;..", "p8;t5");
        x.frost(15, 4);
        x.jump(1);
        mends("the least column, though by another hand", x, 4, 0, 1, 0);
        mends("hands 1 and 2 alike", wall("bbb;b.b", "l1;p5;p5"), 2, 1, 1, 2);
    }

    // ---- promise 20

    @Edge(promise = 20, sentence = {"FIRM; NONE. BAD: it is not told.",
        "FIRM for a HAND: how STRONG (1 to 9), in place of its own, at least, so that no STONE ever FALLS that it set; NONE."})
    static void firmFromOneToNine() {
        Edges.rangeOfHandsTold("firm", (x, v) -> x.firm(v));
        for (int hand = 0; hand < 3; hand++) {
            int h = hand;
            Edges.onlyAsks("firm " + h, x -> x.firm(h));
        }
        for (int force = 1; force <= 15; force++) {
            for (int strong = 1; strong <= 9; strong += 4) {
                for (int year : new int[] {0, 19}) {
                    WallHands x = wall("a", "p" + strong);
                    x.frost(year, force);
                    due("by a frost of " + force, x.firm(0), force <= 9 ? force : NONE);
                    due("its own is as it was", x.hand(0, 1), strong);
                }
            }
        }
        due("without a frost", wall("a", "p9").firm(0), 1);
    }

    @Edge(promise = 20, sentence = "so that no STONE ever FALLS that it set; NONE.")
    static void firmOfAllThatAHandSet() {
        due("it set none", wall("a", "p1;p9").firm(1), 1);
        WallHands frosty = wall("a", "p1;p9");
        frosty.frost(0, 15);
        due("it set none, and a frost", frosty.firm(1), 1);
        due("not borne, however strong", wall(".;a", "p1").firm(0), NONE);
        WallHands gap = wall(".", "p1");
        gap.gapping(2, 0, 0);
        gap.frost(3, 7);
        due("one that it set in a gap", gap.firm(0), 7);
        WallHands behind = wall(".", "p1");
        behind.gapping(3, 0, 0);
        behind.frost(3, 7);
        due("set behind the frost", behind.firm(0), 1);
        WallHands onAnother = wall("b;a", "p1;p3");
        onAnother.frost(19, 4);
        due("on another's that falls", onAnother.firm(0), NONE);
        due("the other's own", onAnother.firm(1), 4);
        WallHands one = wall("aab;aa.", "p1;p1");
        one.frost(5, 10);
        due("the one that holds least: two of its own", one.firm(0), 8);
    }

    // ---- promise 21

    @Edge(promise = 21, sentence = RELAY)
    static void relayOfHandsTold() {
        for (int what = 0; what < 2; what++) {
            int w = what;
            Edges.rangeOfHandsTold("relay", (x, v) -> x.relay(v, w));
            Edges.onlyAsks("relay", x -> x.relay(0, w));
            due("of no hands", wall("a", "").relay(0, w), BAD);
        }
        Edges.range("relay, what", 0, 1, (x, v) -> x.relay(0, v));
    }

    @Edge(promise = 21, sentence = {RELAY, "8 times the COURSE and the COLUMN; how many FALL; NONE: there are none."})
    static void relayOfNoStones() {
        relays("no wall", wall("", "p1"), 0, NONE, NONE);
        relays("no stones", wall("..;..", "p1"), 0, NONE, NONE);
        relays("a wall with a fault", wall("a;", "p1"), 0, NONE, NONE);
        due("bad ahead of none: hand", wall("", "p1").relay(1, 0), BAD);
        due("bad ahead of none: what", wall("", "p1").relay(0, 2), BAD);
        WallHands gapped = wall(".", "p1");
        gapped.gapping(0, 0, 0);
        relays("a stone that is not as told", gapped, 0, NONE, NONE);
    }

    @Edge(promise = 21, sentence = {"RELAY for a HAND: the STONE as told that it had better have set", "8 times the COURSE and the COLUMN; how many FALL"})
    static void relayOfEveryPlace() {
        for (int place = 0; place < 40; place++) {
            StringBuilder text = Edges.even('b', 5, 8);
            text.setCharAt(Edges.in(8, place / 8, place % 8), 'c');
            WallHands x = wall(text.toString(), "p9;p9;p1");
            x.frost(0, 5);
            relays("the weak one", x, 0, place, 0);
            due("all is as told", x.stone(place / 8, place % 8), 2);
        }
        WallHands own = wall("a", "p1");
        own.frost(3, 2);
        relays("its own", own, 0, 0, 1);
        relays("of a hand not told", wall("h", "p1"), 0, 0, 0);
    }

    @Edge(promise = 21, sentence = "so that fewest FALL in all YEARS together, of like ones the least COURSE, then COLUMN")
    static void relayOfLikeOnes() {
        WallHands courses = wall("cbc;b..", "p9;p1;p9");
        courses.frost(0, 5);
        relays("the least course, though a greater column", courses, 0, 1, 1);
        WallHands columns = wall("cbb", "p9;p1;p9");
        columns.frost(0, 5);
        relays("the least column", columns, 0, 1, 1);
        WallHands years = wall("bc", "p9;p1;p4");
        years.frost(0, 2);
        years.frost(19, 6);
        years.gapping(0, 0, 2);
        // b falls in year 0, the c set in its place and the other c fall in year 19
        due("in all years", years.count(6), 3);
        relays("in all years", years, 0, 0, 1);
    }

    // ---- promise 22

    @Edge(promise = 22, sentence = "LIFT; NONE. BAD.")
    static void liftOfEveryPlace() {
        Edges.range("lift, course", 0, 4, (x, v) -> x.lift(v, 0));
        Edges.range("lift, column", 0, 7, (x, v) -> x.lift(0, v));
        Edges.onlyAsks("lift", x -> x.lift(0, 1));
        for (int columns = 1; columns <= 8; columns += 7) {
            for (int column = 0; column < columns; column++) {
                StringBuilder text = Edges.even('.', 5, columns);
                for (int course = 0; course < 5; course++) text.setCharAt(Edges.in(columns, course, column), 'a');
                WallHands x = wall(text.toString(), "");
                for (int course = 0; course < 5; course++) due("of a tower", x.lift(course, column), 4 - course);
            }
        }
    }

    @Edge(promise = 22, sentence = "LIFT of a STONE as told: how many other ones FALL, if it is taken out of THE WALL as told")
    static void liftCountsOthers() {
        due("a stone alone", wall("a", "").lift(0, 0), 0);
        // at the rim what is above has one beside it below; further in it has two
        WallHands full = wall(Edges.even('a', 2, 8).toString(), "");
        for (int column = 0; column < 8; column++) due("of a full wall", full.lift(0, column), column % 7 == 0 ? 1 : 0);
        WallHands bridge = wall("a.a;.a.;.a.", "");
        due("a foot of a bridge", bridge.lift(0, 0), 2);
        due("the other foot", bridge.lift(0, 2), 2);
        due("the bridge", bridge.lift(1, 1), 1);
        // the one above the gap is borne by the two beside it, and so are all above that one
        due("of four courses", wall("aaa;aaa;aaa;aaa", "").lift(0, 1), 0);
    }

    @Edge(promise = 22, sentence = "that would not without that (none by FROSTS; those that are not BORNE, COURSE by COURSE); NONE: there is none.")
    static void liftCountsOnlyWhatElseWouldStand() {
        WallHands x = wall("a.;aa;.a", "");
        due("but what hangs already none", x.lift(0, 0), 1);
        due("what hangs itself", x.lift(1, 1), 0);
        due("what stands on it hangs too", x.lift(2, 1), 0);
        due("none there", x.lift(0, 1), NONE);
        due("none there, beyond the wall", x.lift(4, 7), NONE);
        due("no wall", new WallHands().lift(0, 0), NONE);
        WallHands frosty = wall("a;b", "p1;p1");
        frosty.frost(0, 15);
        due("none by frosts", frosty.lift(0, 0), 1);
        due("of one that falls by a frost", frosty.lift(1, 0), 0);
        WallHands gapped = wall("a;.", "p1");
        gapped.gapping(0, 0, 0);
        due("a stone that is not as told", gapped.lift(1, 0), NONE);
        due("it is not counted", gapped.lift(0, 0), 0);
    }
}
