/** Each promise of the document by hand-made runs: ordinary inputs, the edges it names, wrong inputs. */
public final class PromisesTest {
    private static final int NONE = -1, BAD = -2, NOT = -3, FULL = -4;
    private static final int NULL = -11, INDEX = -12, CAST = -13, STORE = -14, SIZE = -15;
    private static final int LEAST = Integer.MIN_VALUE, MOST = Integer.MAX_VALUE;
    private static final int P = 0, T = 1, L = 2, S = 3;
    private static int wrong = 0;

    public static void main(String[] args) {
        p01NewObject();
        p02Type();
        p03Wipe();
        p04Undo();
        p05Fault();
        p06Stone();
        p07Hand();
        p08Jump();
        p09Frost();
        p10Gapping();
        p11Back();
        p12Read();
        p13At();
        p13Holds();
        p13Years();
        p14Column();
        p15Falls();
        p16Sheep();
        p17Mine();
        p18Best();
        p19Mend();
        p20Firm();
        p21Relay();
        p22Lift();
        p23Seen();
        p24Forget();
        p25Never();
        p26Was();
        p27Ask();
        p28Luck();
        p29Ages();
        p30Sheet();
        p31Lose();
        p32Put();
        p33Get();
        p34Copy();
        p35Write();
        p36Count();
        p37Digest();
        if (wrong != 0) System.exit(1);
    }

    private static void due(String what, long got, long want) {
        if (got != want) {
            wrong++;
            System.out.println(what + " answered " + got + ", due is " + want);
        }
    }

    private static WallHands wall(String stones, String hands) {
        WallHands x = new WallHands();
        tell(x, 0, stones);
        tell(x, 1, hands);
        return x;
    }

    private static void tell(WallHands x, int text, String bytes) {
        for (char b : bytes.toCharArray()) x.type(text, b);
    }

    /** A sheet of a form with these items. */
    private static void fill(WallHands x, int s, int form, int... items) {
        x.sheet(s, form, items.length);
        for (int i = 0; i < items.length; i++) x.put(s, form, i, items[i]);
    }

    private static void p01NewObject() {
        WallHands x = new WallHands();
        for (int what = 0; what <= 8; what++) due("new count " + what, x.count(what), 0);
        due("new fault 0", x.fault(0), NONE);
        due("new fault 1", x.fault(1), NONE);
        due("new jump", x.jump(2), 2);
        for (int s = 0; s < 4; s++) due("new sheet " + s, x.lose(s), NULL);
        for (int c = 0; c < 5; c++) for (int k = 0; k < 8; k++) due("new stone", x.stone(c, k), NONE);
        due("new hand", x.hand(0, 0), BAD);
        due("constants", WallHands.NONE * 1000 + WallHands.BAD * 100 + WallHands.NOT * 10 + WallHands.FULL, -1234);
    }

    private static void p02Type() {
        WallHands x = new WallHands();
        due("type low", x.type(0, 0), 1);
        due("type high", x.type(0, 255), 2);
        due("type below", x.type(0, -1), BAD);
        due("type above", x.type(0, 256), BAD);
        due("type text -1", x.type(-1, 97), BAD);
        due("type text 2", x.type(2, 97), BAD);
        due("type refused", x.count(2), 2);
        for (int n = 3; n <= 44; n++) due("type on", x.type(0, 97), n);
        due("type 45th", x.type(0, 97), FULL);
        due("type bad ahead of full", x.type(0, 256), BAD);
        for (int n = 1; n <= 23; n++) due("type hands", x.type(1, 112), n);
        due("type 24th", x.type(1, 112), FULL);
        due("type full keeps", x.count(2) * 100 + x.count(3), 4423);
    }

    private static void p03Wipe() {
        WallHands x = wall("ab;ba", "p1;l2");
        due("wipe bad", x.wipe(2), BAD);
        due("wipe below", x.wipe(-1), BAD);
        due("wipe 1", x.wipe(1), 5);
        due("wipe 1 leaves 0", x.count(2), 5);
        due("hands are gone", x.count(1), 0);
        due("wipe 0", x.wipe(0), 5);
        due("no fault behind wipe", x.fault(0), NONE);
        due("no fault behind wipe", x.fault(1), NONE);
        due("stones are gone", x.count(0), 0);
        due("wipe empty", x.wipe(0), 0);
        due("type behind wipe", x.type(0, 'c'), 1);
        due("stone behind wipe", x.stone(0, 0), 2);
    }

    private static void p04Undo() {
        WallHands x = wall("ab;", "p1");
        due("undo bad", x.undo(2), BAD);
        due("undo below", x.undo(-1), BAD);
        due("undo ;", x.undo(0), 2);
        due("undo mends a fault", x.fault(0), NONE);
        due("undo makes stones", x.count(0), 2);
        due("undo hand", x.undo(1), 1);
        due("undo makes a fault", x.fault(1), 1);
        due("undo on", x.undo(0), 1);
        due("undo to none", x.undo(0), 0);
        due("undo empty", x.undo(0), NOT);
        WallHands told = wall("ab", "p5;p5");
        told.frost(0, 4);
        due("two stand", told.column(0, 1, 0), 1);
        told.undo(0);
        due("one is undone", told.column(0, 1, 0), BAD);
        tell(told, 0, "b");
        due("and told again", told.column(0, 1, 0), 1);
        for (int i = 0; i < 3; i++) told.undo(1);
        due("a hand undone does not hold", told.column(0, 1, 0), 0);
        told.back(0);
        due("it stands without frost", told.at(0, 0, 1, 0), 1);
        due("it holds 0", told.at(0, 0, 1, 1), 0);
    }

    private static int faultOf(int text, String bytes) {
        WallHands x = new WallHands();
        tell(x, text, bytes);
        return x.fault(text);
    }

    private static void p05Fault() {
        WallHands x = new WallHands();
        due("fault bad", x.fault(2), BAD);
        due("fault below", x.fault(-1), BAD);
        String[] walls = {"", "a", ".", "h", "abcdefgh", "a;b;c;d;e", "..;..", "ab;.h"};
        for (String well : walls) due("fault of " + well, faultOf(0, well), NONE);
        String[] hands = {"", "p1", "t9", "l5;s4", "p1;p2;p3;p4;p5;p6;p7;p8"};
        for (String well : hands) due("fault of " + well, faultOf(1, well), NONE);
        due("fault i", faultOf(0, "i"), 0);
        due("fault A", faultOf(0, "aA"), 1);
        due("fault byte 0", faultOf(0, "ab;a\0"), 4);
        due("fault only ;", faultOf(0, ";"), 0);
        due("fault ;;", faultOf(0, "ab;;"), 3);
        due("fault not ended", faultOf(0, "ab;"), 3);
        due("fault short", faultOf(0, "abc;ab"), 6);
        due("fault short ;", faultOf(0, "abc;ab;abc"), 6);
        due("fault long", faultOf(0, "ab;abc"), 5);
        due("fault ninth column", faultOf(0, "aaaaaaaab"), 8);
        due("fault sixth course", faultOf(0, "a;b;c;d;e;f"), 10);
        due("fault sixth course not begun", faultOf(0, "a;b;c;d;e;"), 10);
        due("fault sixth course empty", faultOf(0, "a;b;c;d;e;;"), 10);
        due("the first fault", faultOf(0, "ab;x;yyy"), 3);
        due("hands: x", faultOf(1, "x"), 0);
        due("hands: not ended", faultOf(1, "p"), 1);
        due("hands: no figure", faultOf(1, "pp"), 1);
        due("hands: 0", faultOf(1, "p0"), 1);
        due("hands: no ;", faultOf(1, "p1p2"), 2);
        due("hands: two figures", faultOf(1, "p12"), 2);
        due("hands: end at ;", faultOf(1, "p1;"), 3);
        due("hands: ;;", faultOf(1, "p1;;"), 3);
        due("hands: ;", faultOf(1, ";p1"), 0);
        due("hands: second", faultOf(1, "p1;q2"), 3);
        due("a faulty wall is empty", wall("ab;a", "p1").count(0), 0);
        due("a faulty wall has no columns", wall("ab;a", "p1").column(0, 0, 0), BAD);
        due("faulty hands are empty", wall("ab", "p1;t").count(1), 0);
    }

    private static void p06Stone() {
        WallHands x = wall("ab;.h", "");
        due("stone a", x.stone(0, 0), 0);
        due("stone b", x.stone(0, 1), 1);
        due("stone none", x.stone(1, 0), NONE);
        due("stone h", x.stone(1, 1), 7);
        due("stone beside the wall", x.stone(0, 2), NONE);
        due("stone above the wall", x.stone(4, 7), NONE);
        due("stone course 5", x.stone(5, 0), BAD);
        due("stone column 8", x.stone(0, 8), BAD);
        due("stone course -1", x.stone(-1, 0), BAD);
        due("stone column -1", x.stone(0, -1), BAD);
        WallHands full = wall("aaaaaaaa;bbbbbbbb;cccccccc;dddddddd;eeeeeeeh", "");
        due("stone last", full.stone(4, 7), 7);
        due("stone first", full.stone(0, 0), 0);
    }

    private static void p07Hand() {
        WallHands x = wall("", "p1;t2;l3;s9");
        int[] moods = {P, T, L, S}, strong = {1, 2, 3, 9};
        for (int h = 0; h < 4; h++) {
            due("hand mood", x.hand(h, 0), moods[h]);
            due("hand strong", x.hand(h, 1), strong[h]);
        }
        due("hand not told", x.hand(4, 0), BAD);
        due("hand -1", x.hand(-1, 1), BAD);
        due("hand what 2", x.hand(0, 2), BAD);
        due("hand what -1", x.hand(0, -1), BAD);
        due("an eighth hand", wall("", "p1;p2;p3;p4;p5;p6;p7;s8").hand(7, 1), 8);
    }

    private static void p08Jump() {
        WallHands x = new WallHands();
        due("jump at first", x.jump(5), 2);
        due("jump 0", x.jump(0), BAD);
        due("jump 6", x.jump(6), BAD);
        due("jump kept", x.jump(1), 5);
        due("jump low", x.jump(1), 1);
        WallHands y = wall("aa;aa", "p5");
        due("jump 2", y.sheep(1), 0);
        y.jump(3);
        due("jump 3", y.sheep(1), 20);
        y.wipe(0);
        due("wipe keeps jump", y.jump(2), 3);
    }

    private static void p09Frost() {
        WallHands x = new WallHands();
        due("frost year -1", x.frost(-1, 1), BAD);
        due("frost year 20", x.frost(20, 1), BAD);
        due("frost force 0", x.frost(0, 0), BAD);
        due("frost force 16", x.frost(0, 16), BAD);
        due("frost first", x.frost(0, 1), 1);
        due("frost last", x.frost(19, 15), 2);
        for (int n = 3; n <= 6; n++) due("frost more", x.frost(3, 3), n);
        due("frost seventh", x.frost(3, 3), FULL);
        due("frost bad ahead of full", x.frost(3, 16), BAD);
        due("frost count", x.count(4), 6);
    }

    private static void p10Gapping() {
        WallHands x = new WallHands();
        due("gapping year -1", x.gapping(-1, 0, 0), BAD);
        due("gapping year 20", x.gapping(20, 0, 0), BAD);
        due("gapping column -1", x.gapping(0, -1, 0), BAD);
        due("gapping column 8", x.gapping(0, 8, 0), BAD);
        due("gapping hand -1", x.gapping(0, 0, -1), BAD);
        due("gapping hand 8", x.gapping(0, 0, 8), BAD);
        due("gapping first", x.gapping(0, 0, 0), 1);
        due("gapping last", x.gapping(19, 7, 7), 2);
        for (int n = 3; n <= 6; n++) due("gapping more", x.gapping(3, 3, 3), n);
        due("gapping seventh", x.gapping(3, 3, 3), FULL);
        due("gapping bad ahead of full", x.gapping(3, 8, 3), BAD);
        due("gapping count", x.count(5), 6);
    }

    private static void p11Back() {
        WallHands x = wall("a;.", "p3");
        due("back none 0", x.back(0), NOT);
        due("back none 1", x.back(1), NOT);
        due("back 2", x.back(2), BAD);
        due("back -1", x.back(-1), BAD);
        x.frost(1, 3);
        x.frost(2, 5);
        x.gapping(0, 0, 0);
        x.gapping(0, 0, 0);
        due("with the last frost", x.mine(0), 0);
        due("back frost", x.back(0), 1);
        due("the first frost is left", x.mine(0), 2);
        due("back gapping", x.back(1), 1);
        due("one gapping is left", x.mine(0), 2);
        due("back gapping more", x.back(1), 0);
        due("no gapping is left", x.mine(0), 1);
        due("back leaves frosts", x.count(4), 1);
        due("back more", x.back(0), 0);
        due("back no more", x.back(0), NOT);
    }

    private static void p12Read() {
        WallHands x = wall("a", "p3");
        due("read -1", x.read(-1), BAD);
        due("read 4", x.read(4), BAD);
        due("read lost", x.read(0), NULL);
        due("read lost found", x.count(8), 1);
        fill(x, 0, 2, 5, 4, 7, 15, 9);
        due("read", x.read(0), 2);
        due("read frosts", x.count(4), 2);
        due("read falls", x.falls(5), 1);
        due("read keeps the sheet", x.get(0, 2, 4), 9);
        x = wall("a", "p3");
        fill(x, 2, 0, 1, 1, 20, 1, 2, 2);
        due("read as long as each may be: year", x.read(2), 1);
        fill(x, 2, 0, 1, 1, 2, 2, 3, 0, 2, 2);
        due("read as long as each may be: force", x.read(2), 2);
        due("read both", x.count(4), 3);
        x = wall("a", "p3");
        fill(x, 2, 0, 0, 1, 1, 1, 2, 1, 3, 1, 4, 1, 5, 1, 6, 1);
        due("read six", x.read(2), 6);
        due("read six frosts", x.count(4), 6);
        x = wall("a", "p3");
        fill(x, 2, 0, 3);
        due("read no whole one", x.read(2), 0);
        x.sheet(3, 2, 0);
        due("read empty", x.read(3), 0);
        fill(x, 2, 0, 3, 200);
        due("read a byte below 0", x.read(2), 0);
        due("read none at all", x.count(4), 0);
        p12ReadBehindFrosts();
    }

    /** Frosts told before stay told, ahead of those that are read. */
    private static void p12ReadBehindFrosts() {
        WallHands x = wall("a", "p3");
        x.frost(5, 4);
        x.gapping(6, 0, 0);
        due("told: falls", x.falls(5), 1);
        x.sheet(0, 0, 0);
        due("nothing to read", x.read(0), 0);
        due("nothing to read: still told", x.count(4), 1);
        due("nothing to read: still falls", x.falls(5), 1);
        due("nothing to read: never", x.never(), 1);
        fill(x, 0, 1, 6, 3, 8, 4);
        due("read behind one", x.read(0), 2);
        due("read behind one: all", x.count(4), 3);
        due("read behind one: it falls", x.falls(5), 1);
        due("read behind one: theirs falls", x.falls(8), 1);
        due("the last is undone", x.back(0), 2);
        due("the last undone was read", x.falls(8), 0);
        due("the told one is first", x.back(0) + x.back(0), 1);
        due("the told one is undone", x.falls(5), 0);

        x.frost(5, 4);
        fill(x, 0, 0, 20, 1, 8, 4);
        due("read one that may not be", x.read(0), 0);
        due("one that may not be: still told", x.count(4), 1);
        due("one that may not be: still falls", x.falls(5), 1);
        fill(x, 0, 0, 8, 4, 9, 16, 10, 4);
        due("read up to one that may not be", x.read(0), 1);
        due("up to one that may not be: all", x.count(4), 2);

        fill(x, 0, 2, 1, 1, 2, 1, 3, 1, 4, 1, 5, 1);
        due("read up to six", x.read(0), 4);
        due("up to six: all", x.count(4), 6);
        due("read at six", x.read(0), 0);
        due("at six: all", x.count(4), 6);
        due("at six: still falls", x.falls(5) + x.falls(8), 2);
        due("read lost at six", x.read(1), NULL);
        due("lost at six: all", x.count(4), 6);

        x = wall("ab", "p3;p5");
        fill(x, 3, 0, 4, 6);
        x.frost(4, 4);
        due("read twice", x.read(3) + x.read(3), 2);
        due("read twice: all", x.count(4), 3);
    }

    private static void p13At() {
        WallHands x = wall("ab", "p3;p4");
        due("at hand", x.at(0, 0, 1, 0), 1);
        due("at holds", x.at(19, 0, 1, 1), 4);
        due("at none", x.at(0, 1, 0, 0), NONE);
        due("at none holds", x.at(0, 1, 0, 1), NONE);
        due("at no such place", x.at(0, 4, 7, 1), NONE);
        int[][] bad = {{-1, 0, 0, 0}, {20, 0, 0, 0}, {0, -1, 0, 0}, {0, 5, 0, 0}, {0, 0, -1, 0}, {0, 0, 8, 0}, {0, 0, 0, -1}, {0, 0, 0, 2}};
        for (int[] b : bad) due("at bad", x.at(b[0], b[1], b[2], b[3]), BAD);
    }

    private static void p13Holds() {
        WallHands plain = wall(".b.;aaa;.a.", "p3;p2");
        // the middle a has two beside it and one above of its hand, and b below
        WallHands middle = wall("aba;aaa;.a.", "p3;p2");
        due("plain: alone", wall("a", "p7").at(0, 0, 0, 1), 7);
        due("plain: three of its hand", middle.at(0, 1, 1, 1), 6);
        due("plain: not borne is gone", plain.at(0, 1, 0, 1), NONE);
        due("plain: four", wall("aaa;aaa;aaa", "p9").at(0, 1, 1, 1), 13);
        due("plain: left and right", wall("aaa", "p3").at(0, 0, 1, 1), 5);
        due("plain: below and above", wall("a;a;a", "p3").at(0, 1, 0, 1), 5);
        due("plain: left and below", wall("aa;aa", "p3").at(0, 1, 1, 1), 5);
        due("plain: below, above, left", wall("ab;aa;ab", "p3;p1").at(0, 1, 0, 1), 6);
        due("plain: below, left, right", wall("aaa;aaa", "p3").at(0, 1, 1, 1), 6);
        due("an eighth hand", wall("ah;ah", "p1;p1;p1;p1;p1;p1;p1;t8").at(0, 0, 1, 1), 8);
        due("temper: three like, one other", wall("aba;aaa;.a.", "t3;p2").at(0, 1, 1, 1), 5);
        due("temper: four others", wall("bbb;bab;bbb", "t3;p2").at(0, 1, 1, 1), 0);
        due("temper: others not told", wall("hhh;hah;hhh", "t6").at(0, 1, 1, 1), 2);
        due("lover: another lover", wall("ab", "l3;l4").at(0, 0, 0, 1), 5);
        due("lover: two other lovers", wall("bab", "l3;l4").at(0, 0, 1, 1), 5);
        due("lover: its own hand", wall("aa", "l3").at(0, 0, 0, 1), 4);
        due("lover: own and another", wall("aab", "l3;l1").at(0, 0, 1, 1), 6);
        due("lover: most", wall("aba;aaa;aaa", "l9;l1").at(0, 1, 1, 1), 14);
        due("lover: a plain one", wall("ab", "l3;p4").at(0, 0, 0, 1), 3);
        due("plain: by a lover", wall("ab", "p3;l4").at(0, 0, 0, 1), 3);
        due("striker: lowest", wall("a;b;a;b;a", "s3;p1").at(0, 0, 0, 1), 3);
        due("striker: on two", wall("a;b;a;b;a", "s3;p1").at(0, 2, 0, 1), 1);
        due("striker: below 0", wall("a;b;a;b;a", "s3;p1").at(0, 4, 0, 1), 0);
        due("not told", wall("ch", "p9").at(0, 0, 1, 1), 0);
        due("no neighbours across the rim", wall("aaaaaaaa;aaaaaaaa", "p1").at(0, 0, 7, 1), 3);
        due("no neighbours across the rim", wall("aaaaaaaa;aaaaaaaa", "p1").at(0, 1, 0, 1), 3);
        due("neighbours not aslant", wall("ab;ba", "p1;p1").at(0, 0, 0, 1), 1);
    }

    private static void p13Years() {
        // as all stand then: both b fall by the first frost, though the second leans on the first
        WallHands together = wall("bb", "p9;p1");
        together.frost(0, 3);
        due("together", together.falls(0), 2);
        // the first frost takes b, so that a has no one of another hand for the second
        WallHands inOrder = wall("ab", "t4;p1");
        inOrder.frost(3, 2);
        inOrder.frost(3, 4);
        due("in the order told", inOrder.at(3, 0, 0, 0), 0);
        WallHands turned = wall("ab", "t4;p1");
        turned.frost(3, 4);
        turned.frost(3, 2);
        due("in the other order", turned.at(3, 0, 0, 0), NONE);
        // years go by their number, not as told
        WallHands years = wall("ab", "t4;p1");
        years.frost(4, 4);
        years.frost(3, 2);
        due("years in their order", years.at(19, 0, 0, 0), 0);
        // a force that it holds by leaves it
        WallHands just = wall("a", "p5");
        just.frost(1, 5);
        due("just", just.at(1, 0, 0, 0), 0);
        just.frost(2, 6);
        due("one more", just.at(2, 0, 0, 0), NONE);
        due("ahead of it", just.at(1, 0, 0, 0), 0);
        WallHands earlier = wall("ab", "t5;p1");
        earlier.frost(4, 2);
        due("holds later", earlier.at(4, 0, 0, 1), 5);
        due("holds earlier", earlier.at(3, 0, 0, 1), 4);
        due("holds later again", earlier.at(19, 0, 0, 1), 5);
        // borne by two that are left and right of it; what stands on it goes with it
        WallHands bridge = wall("a.a;.a.;.a.", "p1");
        due("a bridge stands", bridge.at(0, 2, 1, 0), 0);
        WallHands half = wall("a..;.a.;.a.", "p1");
        due("half a bridge", half.falls(0), 2);
        due("rim: none beyond it", wall("ab;..;a.", "p1;p1").falls(0), 1);
        WallHands rim = wall(".a;a.", "p1");
        due("one aslant does not bear", rim.falls(0), 1);
        // gappings: the lowest place that is empty, of courses told, if it is borne there
        WallHands gap = wall("a.a;.aa", "p1;p2");
        gap.gapping(2, 1, 1);
        due("gapping ahead", gap.at(1, 0, 1, 0), NONE);
        due("gapping lowest", gap.at(2, 0, 1, 0), 1);
        gap.gapping(2, 1, 1);
        due("no course left", gap.at(2, 2, 1, 0), NONE);
        due("no course left", gap.column(2, 1, 0), 2);
        gap.gapping(3, 0, 7);
        due("by a hand not told", gap.at(3, 1, 0, 0), 7);
        due("it holds 0", gap.at(3, 1, 0, 1), 0);
        gap.gapping(3, 3, 0);
        due("no such column", gap.at(3, 0, 3, 0), NONE);
        WallHands notBorne = wall(".a.;.a.;...", "p2");
        notBorne.gapping(0, 0, 0);
        due("course 0 is borne", notBorne.at(0, 0, 0, 0), 0);
        // behind a frost of its year, so that it is not struck
        WallHands behind = wall("a", "p1");
        behind.frost(5, 9);
        behind.gapping(5, 0, 0);
        due("gapped behind the frost", behind.at(5, 0, 0, 0), 0);
        due("fell ahead", behind.falls(5), 1);
        // gappings of one year as told
        WallHands two = wall("a;.;.", "p1;p1");
        two.gapping(1, 0, 1);
        two.gapping(1, 0, 0);
        due("gapping first", two.at(1, 1, 0, 0), 1);
        due("gapping second", two.at(1, 2, 0, 0), 0);
        // below the bridge is the lowest empty place, so course 1 is tried first and is not borne
        WallHands lower = wall("a.;a.;a.", "p1");
        lower.gapping(0, 1, 0);
        lower.gapping(0, 1, 0);
        lower.gapping(0, 1, 0);
        due("column 1 is filled", lower.column(0, 1, 0), 3);
    }

    private static void p14Column() {
        WallHands x = wall("abc;abc", "p5;t5;l5");
        due("column high", x.column(0, 0, 0), 2);
        due("as high as jump, plain", x.column(0, 0, 1), 0);
        due("as high as jump, temper", x.column(0, 1, 1), 0);
        due("as high as jump, a lover", x.column(0, 2, 1), 1);
        x.jump(3);
        due("less high, plain", x.column(19, 0, 1), 1);
        due("less high, temper", x.column(19, 1, 1), 0);
        due("less high, a lover", x.column(19, 2, 1), 1);
        x.jump(1);
        due("higher, a lover", x.column(19, 2, 1), 0);
        WallHands mixed = wall("b;c", "p1;t5;l5");
        due("a lover on a temper", mixed.column(0, 0, 1), 0);
        due("none high", wall("a.", "p1").column(0, 1, 0), 0);
        due("none high: through", wall("a.", "p1").column(0, 1, 1), 1);
        due("a hand not told is no lover", wall("h;h", "l1").column(0, 0, 1), 0);
        int[][] bad = {{-1, 0, 0}, {20, 0, 0}, {0, -1, 0}, {0, 3, 0}, {0, 8, 0}, {0, 0, -1}, {0, 0, 2}};
        for (int[] b : bad) due("column bad", x.column(b[0], b[1], b[2]), BAD);
    }

    private static void p15Falls() {
        WallHands x = wall("ab;ab;a.", "p3;p1");
        due("falls -1", x.falls(-1), BAD);
        due("falls 20", x.falls(20), BAD);
        due("falls none", x.falls(0), 0);
        x.frost(19, 3);
        x.frost(19, 6);
        due("falls by two frosts", x.falls(19), 5);
        due("falls not ahead", x.falls(18), 0);
        WallHands y = wall(".;a", "p9");
        due("falls without a frost", y.falls(0), 1);
        due("falls once", y.falls(1), 0);
        y.gapping(2, 0, 0);
        y.frost(3, 15);
        due("falls gapped", y.falls(3), 1);
    }

    private static void p16Sheep() {
        WallHands x = wall("aa;aa", "p3");
        due("sheep -1", x.sheep(-1), BAD);
        due("sheep 2", x.sheep(2), BAD);
        due("sheep never", x.sheep(0), NONE);
        due("sheep none", x.sheep(1), 0);
        x.frost(7, 6);
        due("sheep first", x.sheep(0), 7);
        due("sheep many", x.sheep(1), 13);
        for (int i = 0; i < 4; i++) x.gapping(10, i % 2, 0);
        due("sheep first as ever", x.sheep(0), 7);
        due("sheep until mended", x.sheep(1), 3);
        due("sheep from year 0 on", wall("a;.", "p1").sheep(0), 0);
        WallHands one = wall("a;b", "p9;p1");
        one.frost(6, 2);
        due("sheep by one that falls", one.sheep(1), 14);
        WallHands eight = wall("hg", "p1;p1;p1;p1;p1;p1;l1;t8");
        due("sheep at the seventh hand", eight.column(0, 1, 1), 1);
        due("no sheep at the eighth", eight.column(0, 0, 1), 0);
    }

    private static void p17Mine() {
        WallHands x = wall("abh;aah", "p3;p1");
        due("mine 0", x.mine(0), 3);
        due("mine 1", x.mine(1), 1);
        due("mine not told", x.mine(7), 2);
        due("mine none", x.mine(4), 0);
        due("mine -1", x.mine(-1), BAD);
        due("mine 8", x.mine(8), BAD);
        x.frost(19, 3);
        due("mine behind 19", x.mine(7), 0);
    }

    private static void p18Best() {
        due("best none", new WallHands().best(), NONE);
        due("best most", wall("abb", "").best(), 1);
        due("best least of like", wall("hccabh", "").best(), 2);
        WallHands x = wall("abb", "p9;p1");
        x.frost(19, 5);
        due("best behind 19", x.best(), 0);
        x.frost(19, 15);
        due("best of none", x.best(), NONE);
    }

    private static void p19Mend() {
        WallHands x = wall("aaa;a.a", "p5;l5;t5");
        due("mend -1", x.mend(-1, 0), BAD);
        due("mend 20", x.mend(20, 0), BAD);
        due("mend what -1", x.mend(0, -1), BAD);
        due("mend what 3", x.mend(0, 3), BAD);
        due("mend column", x.mend(4, 0), 1);
        due("mend hand", x.mend(4, 1), 0);
        due("mend years", x.mend(4, 2), 4);
        due("mend makes none", x.count(5), 0);
        for (int i = 0; i < 6; i++) x.gapping(19, 0, 0);
        due("mend whatever room", x.mend(4, 2), 4);
        due("mend keeps gappings", x.count(5), 6);
        WallHands frosty = wall("aa;aa", "p3;p9");
        frosty.frost(2, 9);
        due("mend behind a frost", frosty.mend(2, 2), 18);
        frosty.gapping(2, 0, 0);
        frosty.gapping(2, 0, 0);
        frosty.gapping(2, 1, 0);
        due("mend the last gap", frosty.mend(5, 0), 1);
        due("mend the last gap", frosty.mend(5, 2), 3);
        WallHands high = wall("aaa;a.a", "l5;l5;t5");
        due("a lover's high place is through", high.mend(4, 2), 20);
        WallHands temper = wall("b;.", "p5;p3;t5");
        due("the least hand that does", temper.mend(0, 1), 0);
        temper.jump(3);
        due("only a temper does", temper.mend(0, 1), 2);
        due("only a temper does", temper.mend(0, 2), 0);
        WallHands last = wall("a;.;.", "p1;t1");
        last.jump(5);
        last.gapping(3, 0, 0);
        last.gapping(3, 0, 0);
        due("behind all others: no room is left", last.mend(3, 2), 20);
        due("mend no columns", wall("", "p1").mend(0, 0), NONE);
        due("mend no hands", wall("a", "").mend(0, 2), NONE);
        due("mend bad ahead of none", wall("a", "").mend(20, 2), BAD);
    }

    private static void p20Firm() {
        WallHands x = wall("aab", "p1;p9");
        due("firm -1", x.firm(-1), BAD);
        due("firm not told", x.firm(2), BAD);
        due("firm without frost", x.firm(0), 1);
        x.frost(3, 6);
        due("firm 5", x.firm(0), 5);
        due("firm of another", x.firm(1), 6);
        due("firm keeps strength", x.hand(0, 1), 1);
        x.frost(4, 11);
        due("firm none", x.firm(0), NONE);
        due("firm keeps strength then", x.hand(0, 1), 1);
        due("firm but not borne", wall(".;a", "p1").firm(0), NONE);
        due("firm without stones", wall("a", "p1;p2").firm(1), 1);
        WallHands nine = wall("a", "p1");
        nine.frost(0, 9);
        due("firm 9", nine.firm(0), 9);
        WallHands onWeak = wall("b;a", "p1;p3");
        onWeak.frost(0, 4);
        due("firm on a weak one", onWeak.firm(0), NONE);
        due("the weak one itself", onWeak.firm(1), 4);
    }

    private static void p21Relay() {
        WallHands x = wall("bb;bb", "p9;p1");
        due("relay -1", x.relay(-1, 0), BAD);
        due("relay not told", x.relay(2, 0), BAD);
        due("relay what -1", x.relay(0, -1), BAD);
        due("relay what 2", x.relay(0, 2), BAD);
        due("relay without frost", x.relay(0, 0), 0);
        due("relay without frost", x.relay(0, 1), 0);
        x.frost(2, 5);
        due("relay the lowest of like", x.relay(0, 0), 0);
        due("relay falls", x.relay(0, 1), 3);
        due("relay keeps the wall", x.stone(0, 0), 1);
        WallHands y = wall("cb;cb", "p9;p1;p4");
        y.frost(2, 5);
        due("relay under what holds", y.relay(0, 0), 1);
        due("relay falls", y.relay(0, 1), 1);
        due("relay course 1", relayUp(), 8);
        due("relay none", wall("..", "p1").relay(0, 0), NONE);
        due("relay none", wall("..", "p1").relay(0, 1), NONE);
        due("relay of a hand not told as well", wall("h", "p1").relay(0, 0), 0);
    }

    /** Only the stone of course 1 falls, and by another hand it would not. */
    private static int relayUp() {
        WallHands x = wall("a.;b.", "p9;p1");
        x.frost(0, 5);
        return x.relay(0, 0);
    }

    private static void p22Lift() {
        WallHands x = wall("aaa;.a.;.a.;aaa", "p1");
        due("lift -1", x.lift(-1, 0), BAD);
        due("lift 5", x.lift(5, 0), BAD);
        due("lift column -1", x.lift(0, -1), BAD);
        due("lift column 8", x.lift(0, 8), BAD);
        due("lift none", x.lift(1, 0), NONE);
        due("lift beyond the wall", x.lift(4, 7), NONE);
        due("lift below: a bridge is left", x.lift(0, 1), 0);
        due("lift course 1", x.lift(1, 1), 2);
        due("lift course 2", x.lift(2, 1), 1);
        due("lift the highest", x.lift(3, 1), 0);
        due("lift one that is not borne", x.lift(3, 0), 0);
        x.frost(0, 15);
        due("lift without frosts", x.lift(1, 1), 2);
        x.gapping(0, 0, 0);
        due("lift as told", x.lift(1, 0), NONE);
        due("lift without hands", wall("a;a", "").lift(0, 0), 1);
    }

    private static void p23Seen() {
        WallHands x = new WallHands();
        int[][] bad = {{-1, 0, 0, 0}, {20, 0, 0, 0}, {0, -1, 0, 0}, {0, 5, 0, 0}, {0, 0, -1, 0}, {0, 0, 8, 0}, {0, 0, 0, -1}, {0, 0, 0, 9}};
        for (int[] b : bad) due("seen bad", x.seen(b[0], b[1], b[2], b[3]), BAD);
        due("seen first", x.seen(0, 0, 0, 0), 1);
        due("seen last", x.seen(19, 4, 7, 8), 2);
        for (int n = 3; n <= 8; n++) due("seen more", x.seen(1, 1, 1, 7), n);
        due("seen ninth", x.seen(0, 0, 0, 0), FULL);
        due("seen bad ahead of full", x.seen(0, 0, 0, 9), BAD);
        due("seen count", x.count(7), 8);
    }

    private static void p24Forget() {
        WallHands x = new WallHands();
        due("forget none", x.forget(), 0);
        x.seen(0, 0, 0, 0);
        x.seen(0, 0, 0, 1);
        due("forget two", x.forget(), 2);
        due("forgotten", x.count(7), 0);
        due("seen anew", x.seen(0, 0, 0, 8), 1);
    }

    private static void p25Never() {
        WallHands x = wall("ab", "p3;p6");
        due("never without frosts", x.never(), 0);
        x.frost(2, 4);
        x.frost(5, 7);
        x.frost(5, 2);
        due("never with nothing seen", x.never(), 7);
        x.seen(4, 0, 0, 0);
        due("never: 0 took it", x.never(), 1);
        x.forget();
        x.seen(19, 0, 1, 1);
        due("never: 1 took it", x.never(), 2);
        x.seen(19, 0, 0, 8);
        due("never: and 0 was", x.never(), 2);
        x.seen(19, 0, 0, 0);
        due("never: none alone", x.never(), 0);
        x.forget();
        x.seen(3, 4, 7, 8);
        due("never: no such place has none", x.never(), 7);
        x.seen(3, 4, 7, 1);
        due("never: no such place has one", x.never(), 0);
        due("never keeps frosts", x.count(4), 3);
    }

    private static void p26Was() {
        WallHands x = wall("aab;c..", "p3;p6;p5");
        due("was -1", x.was(-1, 0), BAD);
        due("was not told", x.was(3, 0), BAD);
        due("was what -1", x.was(0, -1), BAD);
        due("was what 2", x.was(0, 2), BAD);
        due("was anything", x.was(0, 0), 1022);
        due("was any mood", x.was(0, 1), 15);
        x.frost(2, 4);
        x.seen(2, 0, 1, 0);
        due("was strong enough", x.was(0, 0), 1022 - 2 - 4);
        due("was no temper", x.was(0, 1), 1 + 4 + 8);
        x.seen(2, 0, 1, 8);
        due("was nothing", x.was(0, 0), 0);
        due("was no mood", x.was(0, 1), 0);
        x.forget();
        x.seen(2, 1, 0, 8);
        due("was weak by what stood on it", x.was(2, 0), 2 + 4 + 8);
        x.forget();
        x.seen(2, 1, 0, 2);
        x.frost(3, 5);
        x.seen(3, 1, 0, 8);
        due("was however strong, for what bears it falls", x.was(2, 0), 1022 - 2 - 4 - 8);
        due("was keeps", x.hand(2, 1) * 10 + x.hand(2, 0), 50);
        WallHands y = wall("a", "p9");
        y.frost(2, 4);
        y.frost(3, 5);
        y.seen(2, 0, 0, 0);
        y.seen(3, 0, 0, 8);
        due("was between", y.was(0, 0), 16);
    }

    private static void p27Ask() {
        WallHands x = wall("ab", "p3;p9");
        due("ask -1", x.ask(-1), BAD);
        due("ask not told", x.ask(2), BAD);
        due("ask where nothing differs", x.ask(0), 0);
        x.frost(3, 2);
        x.frost(6, 6);
        x.frost(9, 9);
        // behind 3: 1 and 8 of nine; behind 6: 5 and 4; behind 9: 8 and 1
        due("ask the best year", x.ask(0), 6);
        x.seen(6, 0, 0, 8);
        // left are 1 to 5: behind 3: 1 and 4; behind 6: all 5
        due("ask of those that are left", x.ask(0), 3);
        x.seen(0, 0, 0, 8);
        due("ask of none", x.ask(0), 0);
        due("ask keeps", x.hand(0, 1), 3);
        due("ask of another", x.ask(1), 0);
        WallHands first = wall("a", "p3");
        first.frost(0, 5);
        due("ask behind year 0", first.ask(0), 0);
        first.frost(1, 6);
        due("ask of like ones the least", first.ask(0), 0);
        WallHands second = wall("a", "p3");
        second.frost(0, 3);
        second.frost(1, 5);
        second.frost(2, 7);
        due("ask behind year 1", second.ask(0), 1);
        WallHands last = wall("a", "p3");
        last.frost(0, 8);
        last.frost(19, 9);
        last.seen(0, 0, 0, 0);
        due("ask behind year 19", last.ask(0), 19);
        // year 0 parts strengths by what stands on the hand's stone, though it has but one itself
        WallHands bearing = wall("a.;b.;b.", "p3;p9");
        bearing.frost(0, 4);
        due("ask: stones of all hands", bearing.ask(0), 0);
        due("ask of the other", bearing.ask(1), 0);
    }

    private static void p28Luck() {
        long bad = Long.MIN_VALUE + 2;
        WallHands x = wall("aa;aa", "p3");
        due("luck -1", x.luck(-1, 0), bad);
        due("luck 17", x.luck(17, 0), bad);
        due("luck what -1", x.luck(4, -1), bad);
        due("luck what 2", x.luck(4, 2), bad);
        due("luck sure above", x.luck(4, 0), 1);
        due("luck sure below", x.luck(4, 1), 1);
        x.frost(1, 6);
        due("luck one above", x.luck(4, 0), 3);
        due("luck one below", x.luck(4, 1), 4);
        x.frost(2, 9);
        x.frost(2, 2);
        due("luck three above", x.luck(5, 0), 121);
        due("luck three below", x.luck(5, 1), 256);
        due("luck 0 above", x.luck(0, 0), 1);
        due("luck 0 below", x.luck(0, 1), 1);
        due("luck 16 above", x.luck(16, 0), 0);
        due("luck 16 below", x.luck(16, 1), 1);
        for (int i = 0; i < 3; i++) x.frost(3, 15);
        due("luck six above", x.luck(1, 0), 759375);
        due("luck six below", x.luck(1, 1), 1048576);
        due("luck no columns", new WallHands().luck(8, 0), 1);
        WallHands never = wall("a", "p3");
        never.frost(0, 1);
        due("luck none above", never.luck(3, 0), 0);
        due("luck none below", never.luck(3, 1), 1);
    }

    private static void p29Ages() {
        WallHands x = wall("ab;ba", "p7;s6");
        due("ages n -1", x.ages(1, -1, 0), BAD);
        due("ages n 7", x.ages(1, 7, 0), BAD);
        due("ages what -1", x.ages(1, 1, -1), BAD);
        due("ages what 2", x.ages(1, 1, 2), BAD);
        x.frost(0, 15);
        due("ages in place of those told", x.ages(1, 0, 0), 4);
        due("ages in place of those told", x.ages(1, 0, 1), 0);
        WallHands aging = wall("a", "p6");
        aging.jump(1);
        aging.gapping(12, 0, 0);
        // by seed 7: year 12 force 12, 8 10, 11 14, 14 6, 5 2, 13 7
        due("ages: year 12", aging.ages(7, 1, 1), 0);
        due("ages: year 8", aging.ages(7, 2, 1), 4);
        due("ages: five", aging.ages(7, 5, 1), 4);
        due("ages: year 13", aging.ages(7, 6, 1), 11);
        due("ages: five stand", aging.ages(7, 5, 0), 1);
        due("ages: six stand", aging.ages(7, 6, 0), 0);
        for (int seed : new int[] {0, 1, -1, LEAST, MOST, 12345, 777}) {
            for (int n = 1; n <= 6; n++) {
                WallHands y = wall("ab;ba", "p7;s6");
                int lot = seed;
                for (int i = 0; i < n; i++) {
                    lot = 1103515245 * lot + 12345;
                    int year = (lot >>> 16) % 20;
                    lot = 1103515245 * lot + 12345;
                    due("a frost by lot", y.frost(year, (lot >>> 16) % 15 + 1), i + 1);
                }
                int stand = y.mine(0) + y.mine(1);
                due("ages stand " + seed + " " + n, x.ages(seed, n, 0), stand);
                due("ages sheep " + seed + " " + n, x.ages(seed, n, 1), y.sheep(1));
            }
        }
        due("ages keep frosts", x.count(4), 1);
        due("ages keep what is told", x.falls(0), 4);
    }

    private static void p30Sheet() {
        WallHands x = new WallHands();
        due("sheet -1", x.sheet(-1, 0, 1), BAD);
        due("sheet 4", x.sheet(4, 0, 1), BAD);
        due("sheet form -1", x.sheet(0, -1, 1), BAD);
        due("sheet form 3", x.sheet(0, 3, 1), BAD);
        due("sheet 61", x.sheet(0, 0, 61), BAD);
        due("sheet bad ahead of size", x.sheet(4, 0, -1), BAD);
        due("bad finds nothing", x.count(8), 0);
        due("sheet size", x.sheet(0, 0, -1), SIZE);
        due("size found", x.count(8), 5);
        due("size makes none", x.lose(0), NULL);
        due("sheet least size", x.sheet(0, 0, LEAST), SIZE);
        due("sheet 60", x.sheet(0, 2, 60), 60);
        due("sheet 0", x.sheet(1, 1, 0), 0);
        x.put(0, 2, 59, 7);
        due("sheet size keeps the row", x.sheet(0, 0, -1), SIZE);
        due("the row is kept", x.get(0, 2, 59), 7);
        due("sheet anew", x.sheet(0, 2, 60), 60);
        due("a new row is 0", x.get(0, 2, 59), 0);
    }

    private static void p31Lose() {
        WallHands x = new WallHands();
        due("lose -1", x.lose(-1), BAD);
        due("lose 4", x.lose(4), BAD);
        due("lose lost", x.lose(3), NULL);
        due("lose found", x.count(8), 1);
        x.sheet(3, 1, 17);
        due("lose", x.lose(3), 17);
        due("lose again", x.lose(3), NULL);
        x.sheet(2, 0, 0);
        due("lose empty", x.lose(2), 0);
    }

    private static void p32Put() {
        WallHands x = new WallHands();
        x.sheet(0, 0, 3);
        x.sheet(1, 1, 3);
        x.sheet(2, 2, 3);
        due("put -1", x.put(-1, 0, 0, 0), BAD);
        due("put 4", x.put(4, 0, 0, 0), BAD);
        due("put form -1", x.put(0, -1, 0, 0), BAD);
        due("put form 3", x.put(0, 3, 0, 0), BAD);
        due("put bad ahead of null", x.put(3, 3, 0, 0), BAD);
        due("put null", x.put(3, 0, 9, 0), NULL);
        due("put null found", x.count(8), 1);
        due("put cast ahead of index", x.put(0, 1, 9, 0), CAST);
        due("put cast found", x.count(8), 3);
        due("put index", x.put(0, 0, 3, 0), INDEX);
        due("put index found", x.count(8), 2);
        due("put index -1", x.put(0, 0, -1, 0), INDEX);
        due("put byte", x.put(0, 0, 0, 128), 1);
        due("byte", x.get(0, 0, 0), -128);
        x.put(0, 0, 1, 0x1ff);
        due("byte's lowest bits", x.get(0, 0, 1), -1);
        x.put(1, 1, 2, 0x18000);
        due("short's lowest bits", x.get(1, 1, 2), -32768);
        x.put(2, 2, 2, LEAST);
        due("int", x.get(2, 2, 2), LEAST);
        due("others stay", x.get(2, 2, 1), 0);
        due("count 8 stays", x.count(8), 2);
    }

    private static void p33Get() {
        WallHands x = new WallHands();
        x.sheet(0, 1, 2);
        x.put(0, 1, 1, -5);
        due("get", x.get(0, 1, 1), -5);
        due("get -1", x.get(-1, 1, 1), LEAST);
        due("get 4", x.get(4, 1, 1), LEAST);
        due("get form -1", x.get(0, -1, 1), LEAST);
        due("get form 3", x.get(0, 3, 1), LEAST);
        due("get bad finds nothing", x.count(8), 0);
        due("get null", x.get(1, 0, 0), LEAST);
        due("get null found", x.count(8), 1);
        due("get cast ahead of index", x.get(0, 2, 2), LEAST);
        due("get cast found", x.count(8), 3);
        due("get index", x.get(0, 1, 2), LEAST);
        due("get index found", x.count(8), 2);
        due("get null again", x.get(2, 0, 0), LEAST);
        due("latest finding", x.count(8), 1);
        due("get below 0", x.get(0, 1, -1), LEAST);
        due("get below 0 found", x.count(8), 2);
    }

    private static void p34Copy() {
        WallHands x = new WallHands();
        due("copy s -1", x.copy(-1, 0, 0, 0, 0), BAD);
        due("copy s 4", x.copy(4, 0, 0, 0, 0), BAD);
        due("copy t -1", x.copy(0, 0, -1, 0, 0), BAD);
        due("copy t 4", x.copy(0, 0, 4, 0, 0), BAD);
        fill(x, 0, 2, 1, 2, 3, 4, 5);
        due("copy to lost", x.copy(0, -1, 1, 0, 1), NULL);
        due("copy from lost", x.copy(1, 0, 0, 0, 1), NULL);
        x.sheet(1, 1, 5);
        due("copy store ahead of index", x.copy(0, -1, 1, 0, 1), STORE);
        due("copy store found", x.count(8), 4);
        x.sheet(1, 2, 3);
        due("copy i below 0", x.copy(0, -1, 1, 0, 1), INDEX);
        due("copy j below 0", x.copy(0, 0, 1, -1, 1), INDEX);
        due("copy n below 0", x.copy(0, 0, 1, 0, -1), INDEX);
        due("copy too many of s", x.copy(0, 3, 1, 0, 3), INDEX);
        due("copy too many of t", x.copy(0, 0, 1, 1, 3), INDEX);
        due("copy very many", x.copy(0, 1, 1, 1, MOST), INDEX);
        due("copy from very far", x.copy(0, MOST, 1, 0, 1), INDEX);
        due("copy to very far", x.copy(0, 0, 1, MOST, MOST), INDEX);
        due("copy from behind the end", x.copy(0, 6, 1, 0, 0), INDEX);
        due("copy changed nothing", x.get(1, 2, 0), 0);
        due("copy none at the ends", x.copy(0, 5, 1, 3, 0), 1);
        due("copy", x.copy(0, 1, 1, 0, 3), 1);
        due("copied", x.get(1, 2, 0) * 100 + x.get(1, 2, 1) * 10 + x.get(1, 2, 2), 234);
        due("copy within, up", x.copy(0, 0, 0, 1, 4), 1);
        long items = 0;
        for (int i = 0; i < 5; i++) items = 10 * items + x.get(0, 2, i);
        due("as they were", items, 11234);
        due("copy within, down", x.copy(0, 2, 0, 0, 3), 1);
        items = 0;
        for (int i = 0; i < 5; i++) items = 10 * items + x.get(0, 2, i);
        due("as they were then", items, 23434);
    }

    private static void p35Write() {
        WallHands x = wall("abc;ab.;a..", "p5;p5;p1");
        due("write year -1", x.write(-1, 0), BAD);
        due("write year 20", x.write(20, 0), BAD);
        due("write -1", x.write(0, -1), BAD);
        due("write 4", x.write(0, 4), BAD);
        due("write lost", x.write(0, 0), NULL);
        due("write found", x.count(8), 1);
        fill(x, 0, 2, 9, 9, 9, 9);
        due("write columns", x.write(0, 0), 3);
        due("written", x.get(0, 2, 0) * 1000 + x.get(0, 2, 1) * 100 + x.get(0, 2, 2) * 10 + x.get(0, 2, 3), 3219);
        x.frost(3, 2);
        due("write then", x.write(3, 0), 3);
        due("written then", x.get(0, 2, 2), 0);
        fill(x, 1, 0, 7, 7);
        due("write items", x.write(2, 1), 2);
        due("written bytes", x.get(1, 0, 0) * 10 + x.get(1, 0, 1), 32);
        x.sheet(1, 1, 0);
        due("write no items", x.write(2, 1), 0);
        x.wipe(0);
        due("write no columns", x.write(2, 0), 0);
        due("the sheet stays", x.get(0, 2, 0), 3);
    }

    private static void p36Count() {
        WallHands x = wall("ab;.h", "p1;t2;s3");
        x.frost(0, 2);
        x.frost(9, 15);
        x.gapping(4, 0, 2);
        x.seen(0, 0, 0, 0);
        x.seen(0, 0, 0, 0);
        x.seen(0, 0, 0, 0);
        x.sheet(0, 0, -1);
        int[] want = {3, 3, 5, 8, 2, 1, 4, 3, 5};
        for (int what = 0; what <= 8; what++) due("count " + what, x.count(what), want[what]);
        due("count -1", x.count(-1), BAD);
        due("count 9", x.count(9), BAD);
    }

    private static void p37Digest() {
        WallHands empty = new WallHands();
        due("digest of a new object", empty.digest(), asDocumentSays(empty, 0));
        WallHands x = wall("aab.;b.a.;ab..", "p4;t6;l3");
        x.frost(1, 6);
        x.frost(7, 4);
        x.gapping(9, 1, 2);
        x.seen(1, 0, 2, 1);
        x.jump(3);
        long before = x.digest();
        due("digest", before, asDocumentSays(x, 4));
        x.sheet(0, 0, -1);
        due("digest without count 8", x.digest(), before);
        // something happens in each year that the document names, and in those beside it
        WallHands years = wall("aabbcd;ddccba;aabbcd", "p4;t8;l5;p7");
        int[][] frosts = {{4, 4}, {5, 5}, {9, 6}, {10, 7}, {18, 8}, {19, 9}};
        for (int[] frost : frosts) years.frost(frost[0], frost[1]);
        int[][] gappings = {{4, 2, 1}, {5, 3, 0}, {6, 1, 3}, {9, 4, 2}, {18, 5, 1}, {19, 0, 1}};
        for (int[] gapping : gappings) years.gapping(gapping[0], gapping[1], gapping[2]);
        due("digest of years", years.digest(), asDocumentSays(years, 6));
        WallHands mending = wall("ab;a.", "t1;p9");
        mending.frost(2, 3);
        mending.frost(3, 4);
        due("digest of a mending", mending.digest(), asDocumentSays(mending, 2));
        WallHands lucky = wall("aabb;aabb", "p9;p8");
        for (int force = 10; force <= 12; force++) lucky.frost(force - 8, force);
        due("digest of luck", lucky.digest(), asDocumentSays(lucky, 4));
        // by seed 7 the fifth frost is in year 5, of force 2, a sixth would be in year 13, of force 7
        WallHands aging = wall("ab;a.", "p6;p1");
        aging.jump(1);
        aging.gapping(12, 0, 0);
        aging.gapping(12, 1, 0);
        due("digest of ages", aging.digest(), asDocumentSays(aging, 2));
        WallHands holed = wall("aaa;a.a", "l5;p5");
        for (int year = 4; year <= 6; year++) holed.frost(year, year + 1);
        due("digest of a hole", holed.digest(), asDocumentSays(holed, 3));
        x.type(0, 'x');
        due("digest with a fault", x.digest(), asDocumentSays(x, 0));
        // a number from the shared tests
        WallHands told = wall("aab;bab", "p4;t6");
        told.frost(1, 6);
        told.frost(7, 5);
        due("digest as told elsewhere", told.digest(), -8033584746172725834L);
    }

    private static long h;

    private static void mix(long v) {
        h = 31 * h + v;
    }

    private static long asDocumentSays(WallHands x, int columns) {
        h = 17;
        for (int what = 0; what <= 7; what++) mix(x.count(what));
        mix(x.fault(0));
        mix(x.fault(1));
        for (int c = 0; c < 5; c++) {
            for (int k = 0; k < 8; k++) {
                mix(x.stone(c, k));
                mix(x.at(0, c, k, 0));
                mix(x.at(0, c, k, 1));
                mix(x.at(19, c, k, 0));
                mix(x.at(19, c, k, 1));
                mix(x.lift(c, k));
            }
        }
        for (int k = 0; k < columns; k++) {
            mix(x.column(9, k, 0));
            mix(x.column(9, k, 1));
            mix(x.column(19, k, 0));
            mix(x.column(19, k, 1));
        }
        for (int y = 0; y < 20; y++) mix(x.falls(y));
        for (int hand = 0; hand < x.count(1); hand++) {
            mix(x.hand(hand, 0));
            mix(x.hand(hand, 1));
            mix(x.mine(hand));
            mix(x.firm(hand));
            mix(x.relay(hand, 0));
            mix(x.relay(hand, 1));
            mix(x.was(hand, 0));
            mix(x.was(hand, 1));
            mix(x.ask(hand));
        }
        mix(x.sheep(0));
        mix(x.sheep(1));
        mix(x.best());
        for (int what = 0; what <= 2; what++) mix(x.mend(5, what));
        mix(x.never());
        mix(x.luck(5, 0));
        mix(x.luck(5, 1));
        mix(x.ages(7, 5, 0));
        mix(x.ages(7, 5, 1));
        return h;
    }
}
