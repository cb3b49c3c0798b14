/** Edges of promises 1 to 7: a new object, texts and their faults, stones and hands as told. */
public final class EdgesOfTextsTest {
    private static final int NONE = Edges.NONE, BAD = Edges.BAD, NOT = Edges.NOT, FULL = Edges.FULL;

    public static void main(String[] args) throws Exception {
        Edges.run(EdgesOfTextsTest.class);
    }

    private static void due(String what, long got, long want) {
        Edges.due(what, got, want);
    }

    private static int faultOf(int text, String bytes) {
        WallHands x = new WallHands();
        Edges.tell(x, text, bytes);
        return x.fault(text);
    }

    private static void faults(int text, String bytes, int want) {
        due("fault of '" + bytes + "'", faultOf(text, bytes), want);
    }

    // ---- promise 1

    @Edge(promise = 1, sentence = "No STONES, no HANDS; all SHEETS are LOST.")
    static void aNewObjectHasNothing() {
        WallHands x = new WallHands();
        for (int course = 0; course < 5; course++) {
            for (int column = 0; column < 8; column++) due("stone", x.stone(course, column), NONE);
        }
        for (int hand = 0; hand < 8; hand++) due("hand " + hand, x.hand(hand, 0), BAD);
        for (int what = 0; what <= 8; what++) due("count " + what, x.count(what), 0);
        for (int s = 0; s < 4; s++) due("sheet " + s, x.lose(s), Edges.NULL);
    }

    @Edge(promise = 1, sentence = "No STONES, no HANDS; all SHEETS are LOST.")
    static void aNewObjectHasNothingBesideAFullOne() {
        WallHands full = Edges.made(Edges::allFull);
        long before = full.digest();
        WallHands x = new WallHands();
        for (int what = 0; what <= 8; what++) due("count " + what, x.count(what), 0);
        due("its sheet", x.lose(0), Edges.NULL);
        due("its jump", x.jump(5), 2);
        x.type(0, 'h');
        due("the full one", full.digest(), before);
        due("the full one's jump", full.jump(2), 2);
    }

    @Edge(promise = 1, sentence = "An object is used for at most 512 calls after it has been made")
    static void the512thCallIsAnswered() {
        WallHands x = new WallHands();
        for (int i = 0; i < 44; i++) x.type(0, 'a');
        for (int i = 0; i < 467; i++) x.type(0, 'a');
        due("the 512th call", x.undo(0), 43);
    }

    // ---- promises 2 to 4

    @Edge(promise = 2, sentence = "A byte (0 to 255) comes behind a text: how many. BAD; FULL.")
    static void typeTakesBytesOfTwoTexts() {
        Edges.range("type 0, byte", 0, 255, (x, v) -> x.type(0, v));
        Edges.range("type 1, byte", 0, 255, (x, v) -> x.type(1, v));
        Edges.range("type, text", 0, 1, (x, v) -> x.type(v, 'a'));
        due("byte 0 comes to an empty text", new WallHands().type(0, 0), 1);
        due("byte 255 comes to an empty text", new WallHands().type(1, 255), 1);
        WallHands x = Edges.wall("ab", "p1;t2");
        due("the last byte is behind: stone", x.stone(0, 1), 1);
        due("the last byte is behind: hand", x.hand(1, 1), 2);
    }

    @Edge(promise = 2, sentence = {"THE WALL is a text of up to 44 bytes (text 0)", "A byte (0 to 255) comes behind a text: how many. BAD; FULL."})
    static void theWallHas44Bytes() {
        WallHands x = new WallHands();
        for (int n = 1; n <= 44; n++) due("byte " + n, x.type(0, Edges.FULL_WALL.charAt(n - 1)), n);
        due("all of them count", x.count(2), 44);
        due("the last one is told", x.stone(4, 7), 7);
        Edges.refuses("a 45th byte", Edges::allFull, y -> y.type(0, 'a'), FULL);
        due("behind an undo there is room", x.undo(0) + x.type(0, 'g'), 43 + 44);
        due("for that byte", x.stone(4, 7), 6);
        due("and for no other", x.type(0, 'g'), FULL);
        due("the other text has room", x.type(1, 'p'), 1);
        due("behind a wipe there is room", x.wipe(0) + x.type(0, 'g'), 44 + 1);
    }

    @Edge(promise = 2, sentence = {"HANDS are a text of up to 23 bytes (text 1)", "A byte (0 to 255) comes behind a text: how many. BAD; FULL."})
    static void handsHave23Bytes() {
        WallHands x = new WallHands();
        for (int n = 1; n <= 23; n++) due("byte " + n, x.type(1, Edges.FULL_HANDS.charAt(n - 1)), n);
        due("all of them count", x.count(3), 23);
        due("the last one is told", x.hand(7, 1), 9);
        Edges.refuses("a 24th byte", Edges::allFull, y -> y.type(1, ';'), FULL);
        due("behind an undo there is room", x.undo(1) + x.type(1, '8'), 22 + 23);
        due("and for no other", x.type(1, '8'), FULL);
        due("the other text has room", x.type(0, 'a'), 1);
    }

    @Edge(promise = 2, sentence = "A byte (0 to 255) comes behind a text: how many. BAD; FULL.")
    static void typeIsBadAheadOfFull() {
        for (int b : new int[] {-1, 256}) {
            for (int text = 0; text < 2; text++) {
                int t = text;
                Edges.refuses("byte " + b + " to full text " + t, Edges::allFull, x -> x.type(t, b), BAD);
            }
        }
        for (int text : new int[] {-1, 2}) {
            Edges.refuses("text " + text + ", all full", Edges::allFull, x -> x.type(text, 'a'), BAD);
        }
    }

    @Edge(promise = 3, sentence = "A text is empty: how many bytes it had. BAD.")
    static void wipeOfFullAndEmptyTexts() {
        Edges.range("wipe", 0, 1, (x, v) -> x.wipe(v));
        WallHands x = Edges.made(Edges::allFull);
        due("wipe a full wall", x.wipe(0), 44);
        due("hands stay", x.count(3), 23);
        due("wipe it again", x.wipe(0), 0);
        due("wipe full hands", x.wipe(1), 23);
        due("wipe them again", x.wipe(1), 0);
        due("no bytes", x.count(2) + x.count(3), 0);
        due("no stones, no hands", x.count(0) + x.count(1), 0);
        due("wipe of a new object", new WallHands().wipe(0) + new WallHands().wipe(1), 0);
        WallHands faulty = Edges.wall("a;", "p");
        due("wipe with a fault", faulty.wipe(0) * 10 + faulty.wipe(1), 21);
        due("no fault is left", faulty.fault(0) + faulty.fault(1), 2 * NONE);
        WallHands told = Edges.made(Edges::someOfAll);
        told.wipe(0);
        told.wipe(1);
        due("frosts, gappings, seen stay", told.count(4) * 100 + told.count(5) * 10 + told.count(7), 322);
        due("jump stays", told.jump(2), 3);
    }

    @Edge(promise = {3, 4, 11, 24}, sentence = {"A text is empty: how many bytes it had.", "The last byte of a text is undone: how many are left.",
        "The last FROST (what = 0), GAPPING (1) is undone: how many are left.", "All SEEN are forgotten: how many."})
    static void allUndoneIsAsAtFirst() {
        long first = new WallHands().digest();
        WallHands wiped = Edges.made(Edges::allFull), undone = Edges.made(Edges::allFull);
        for (WallHands x : new WallHands[] {wiped, undone}) {
            due("all is told", x.digest() == first ? 1 : 0, 0);
            for (int i = 0; i < 6; i++) due("back", x.back(0) + x.back(1), 2 * (5 - i));
            due("forget", x.forget(), 8);
        }
        due("wipe", wiped.wipe(0) + wiped.wipe(1), 44 + 23);
        for (int i = 0; i < 44; i++) undone.undo(0);
        for (int i = 0; i < 23; i++) undone.undo(1);
        due("wiped", wiped.digest(), first);
        due("undone", undone.digest(), first);
    }

    @Edge(promise = 4, sentence = "The last byte of a text is undone: how many are left. BAD; NOT: it is empty.")
    static void undoDownToEmpty() {
        Edges.range("undo", 0, 1, (x, v) -> x.undo(v));
        WallHands x = Edges.made(Edges::allFull);
        for (int left = 43; left >= 0; left--) due("undo the wall", x.undo(0), left);
        due("undo of an empty wall", x.undo(0), NOT);
        for (int left = 22; left >= 0; left--) due("undo hands", x.undo(1), left);
        due("undo of no hands", x.undo(1), NOT);
        Edges.refuses("undo at first, wall", Edges::nothing, y -> y.undo(0), NOT);
        Edges.refuses("undo at first, hands", Edges::nothing, y -> y.undo(1), NOT);
        Edges.refuses("undo of an empty wall beside hands", y -> Edges.tell(y, 1, "p1"), y -> y.undo(0), NOT);
        Edges.refuses("undo of no hands beside a wall", y -> Edges.tell(y, 0, "ab"), y -> y.undo(1), NOT);
    }

    @Edge(promise = 4, sentence = "The last byte of a text is undone: how many are left. BAD; NOT: it is empty.")
    static void undoIsBadAheadOfNot() {
        Edges.refuses("undo 2 of nothing", Edges::nothing, x -> x.undo(2), BAD);
        Edges.refuses("undo -1 of nothing", Edges::nothing, x -> x.undo(-1), BAD);
    }

    @Edge(promise = 4, sentence = "The last byte of a text is undone: how many are left.")
    static void undoBringsBackWhatWasTold() {
        WallHands x = Edges.wall("ab;b", "p1;t");
        due("with a fault: stones", x.count(0), 0);
        due("with a fault: hands", x.count(1), 0);
        x.undo(0);
        due("not ended: stones", x.count(0), 0);
        x.undo(0);
        due("ended: stones", x.count(0), 2);
        x.undo(1);
        x.undo(1);
        due("ended: hands", x.count(1), 1);
    }

    // ---- promise 5

    @Edge(promise = 5, sentence = {"The FAULT of a text; NONE. BAD.", "an empty one is well"})
    static void emptyTextsAreWell() {
        Edges.range("fault", 0, 1, (x, v) -> x.fault(v));
        WallHands x = new WallHands();
        due("empty wall", x.fault(0), NONE);
        due("no hands", x.fault(1), NONE);
        x.type(0, '!');
        due("each has its own: wall", x.fault(0), 0);
        due("each has its own: hands", x.fault(1), NONE);
    }

    @Edge(promise = 5, sentence = {"a letter a to h, the HAND (0 to 7) that set a STONE there, or . (none)",
        "The FAULT of a text is the place of the first byte with which it cannot go on"})
    static void whichBytesAreStones() {
        for (int b = 0; b <= 255; b++) {
            boolean well = b >= 'a' && b <= 'h' || b == '.';
            WallHands first = new WallHands();
            first.type(0, b);
            due("byte " + b + " first", first.fault(0), well ? NONE : 0);
            due("byte " + b + " first: its hand", first.stone(0, 0), well && b != '.' ? b - 'a' : NONE);
            WallHands second = new WallHands();
            second.type(0, 'a');
            second.type(0, b);
            due("byte " + b + " second", second.fault(0), well ? NONE : b == ';' ? 2 : 1);
            WallHands above = new WallHands();
            Edges.tell(above, 0, "a;");
            above.type(0, b);
            due("byte " + b + " above", above.fault(0), well ? NONE : 2);
        }
    }

    @Edge(promise = 5, sentence = {"p (plain), t (in a temper), l (a lover) or s (a striker), and a figure 1 to 9, how STRONG",
        "The FAULT of a text is the place of the first byte with which it cannot go on"})
    static void whichBytesAreHands() {
        for (int b = 0; b <= 255; b++) {
            boolean mood = b == 'p' || b == 't' || b == 'l' || b == 's';
            WallHands first = new WallHands();
            first.type(1, b);
            due("byte " + b + " first", first.fault(1), mood ? 1 : 0);
            WallHands second = new WallHands();
            second.type(1, 's');
            second.type(1, b);
            boolean figure = b >= '1' && b <= '9';
            due("byte " + b + " second", second.fault(1), figure ? NONE : 1);
            due("byte " + b + " second: how strong", second.hand(0, 1), figure ? b - '0' : BAD);
            WallHands third = Edges.wall("", "l5");
            third.type(1, b);
            due("byte " + b + " third", third.fault(1), b == ';' ? 3 : 2);
            WallHands fourth = Edges.wall("", "l5;");
            fourth.type(1, b);
            due("byte " + b + " fourth", fourth.fault(1), mood ? 4 : 3);
        }
    }

    @Edge(promise = 5, sentence = "The FAULT of a text is the place of the first byte with which it cannot go on")
    static void theFirstFaultIsTold() {
        faults(0, "abxay", 2);
        faults(0, ";;", 0);
        faults(0, "ab;x;abc", 3);
        faults(0, "ab;abc;a", 5);
        faults(0, "aA", 1);
        faults(1, "x1;y2", 0);
        faults(1, "p0;x", 1);
        faults(1, "p1p2x", 2);
        faults(1, "p1;t2;s;l", 7);
        StringBuilder last = new StringBuilder(Edges.FULL_WALL);
        last.setCharAt(43, 'i');
        faults(0, last.toString(), 43);
        faults(1, "p1;t2;l3;s4;p5;t6;l7;s0", 22);
    }

    @Edge(promise = 5, sentence = "of one that is not ended, or of a COURSE that is too short, its end, or its ;")
    static void textsThatAreNotEnded() {
        faults(0, "a;", 2);
        faults(0, "ab;", 3);
        faults(0, "a;b;c;d;", 8);
        faults(0, "abcdefgh;abcdefgh;abcdefgh;abcdefgh;", 36);
        faults(0, ";", 0);
        faults(0, "a;;a", 2);
        faults(1, "p", 1);
        faults(1, "p1;", 3);
        faults(1, "p1;t", 4);
        faults(1, "p1;t2;l3;s4;p5;t6;l7;", 21);
        faults(1, "p1;t2;l3;s4;p5;t6;l7;s", 22);
        faults(1, "p1;t2;l3;s4;p5;t6;l7;s9", NONE);
        faults(1, "p;", 1);
        faults(1, "p1;;", 3);
        faults(1, ";", 0);
    }

    @Edge(promise = 5, sentence = "of one that is not ended, or of a COURSE that is too short, its end, or its ;")
    static void coursesThatAreTooShort() {
        for (int columns = 2; columns <= 8; columns++) {
            for (int courses = 1; courses <= 4; courses++) {
                String whole = Edges.even('b', courses, columns) + ";";
                for (int n = 1; n < columns; n++) {
                    String shortOne = whole + "bbbbbbbb".substring(0, n);
                    faults(0, shortOne, shortOne.length());
                    faults(0, shortOne + ";", shortOne.length());
                    faults(0, shortOne + ";b", shortOne.length());
                }
            }
        }
    }

    @Edge(promise = 5, sentence = {"each of as many COLUMNS (1 to 8) as the first one", "here also of a COLUMN too many"})
    static void columnsAreOneToEightAndAsTheFirst() {
        faults(0, "a", NONE);
        faults(0, "abcdefgh", NONE);
        faults(0, "abcdefgha", 8);
        faults(0, "abcdefgh.", 8);
        faults(0, "abcdefghi", 8);
        faults(0, "abcdefgh;", 9);
        for (int columns = 1; columns <= 8; columns++) {
            for (int courses = 1; courses <= 4; courses++) {
                String above = Edges.even('a', courses + 1, columns).toString();
                faults(0, above, NONE);
                if (above.length() < 44) faults(0, above + "a", above.length());
                if (above.length() < 44) faults(0, above + ".", above.length());
            }
        }
    }

    @Edge(promise = 5, sentence = {"COURSES, 5 at most, the lowest (0) first, with ; between them", "of the first byte of a sixth COURSE"})
    static void coursesAreFiveAtMost() {
        for (int columns = 1; columns <= 7; columns++) {
            String five = Edges.even('c', 5, columns).toString();
            faults(0, five, NONE);
            faults(0, five + ";", five.length() + 1);
            faults(0, five + ";c", five.length() + 1);
            faults(0, five + ";.", five.length() + 1);
            faults(0, five + ";x", five.length() + 1);
            faults(0, five + ";;", five.length() + 1);
            if (columns <= 6) faults(0, Edges.even('c', 6, columns).toString(), five.length() + 1);
        }
        faults(0, Edges.FULL_WALL, NONE);
        WallHands x = Edges.wall("a;b;c;d;e", "");
        for (int course = 0; course < 5; course++) due("course " + course, x.stone(course, 0), course);
        x.undo(0);
        x.undo(0);
        due("four courses", x.count(0), 4);
    }

    @Edge(promise = {5, 7}, sentence = {"8 at most (0 on), with ; between them", "of a ninth HAND"})
    static void handsAreEightAtMost() {
        WallHands x = Edges.wall("", Edges.FULL_HANDS);
        due("eight are well", x.fault(1), NONE);
        due("eight", x.count(1), 8);
        // a ninth would begin behind the 24th byte, for which there is no room
        due("no ; behind the eighth", x.type(1, ';'), FULL);
        due("still well", x.fault(1), NONE);
        due("no ninth", x.hand(8, 0), BAD);
        due("seven", Edges.wall("", "p1;p1;p1;p1;p1;p1;p1").count(1), 7);
        due("one", Edges.wall("", "p1").count(1), 1);
    }

    @Edge(promise = {5, 6}, sentence = "With a FAULT a text is as if it was empty.")
    static void aWallWithAFaultIsEmpty() {
        for (String faulty : new String[] {"aab;ba", "aab;", "x", "aab;bab;.c.!"}) {
            WallHands x = Edges.made(Edges::someOfAll), empty = Edges.made(Edges::someOfAll);
            x.wipe(0);
            Edges.tell(x, 0, faulty);
            empty.wipe(0);
            due("bytes are still there", x.count(2), faulty.length());
            answersAlike(x, empty, faulty);
        }
    }

    @Edge(promise = {5, 7}, sentence = "With a FAULT a text is as if it was empty.")
    static void handsWithAFaultAreNone() {
        for (String faulty : new String[] {"p4;t6;l", "p4;t6;l3;", "p", "p4;t6;l3;x", "p0"}) {
            WallHands x = Edges.made(Edges::someOfAll), empty = Edges.made(Edges::someOfAll);
            x.wipe(1);
            Edges.tell(x, 1, faulty);
            empty.wipe(1);
            due("bytes are still there", x.count(3), faulty.length());
            answersAlike(x, empty, faulty);
            due("its stones hold by 0", x.at(0, 0, 0, 1), 0);
        }
    }

    private static void answersAlike(WallHands x, WallHands empty, String of) {
        for (int what : new int[] {0, 1, 4, 5, 6, 7}) due(of + ": count " + what, x.count(what), empty.count(what));
        for (int course = 0; course < 5; course++) {
            for (int column = 0; column < 4; column++) {
                due(of + ": stone", x.stone(course, column), empty.stone(course, column));
                due(of + ": at", x.at(0, course, column, 1), empty.at(0, course, column, 1));
                due(of + ": lift", x.lift(course, column), empty.lift(course, column));
            }
        }
        for (int column = 0; column < 4; column++) due(of + ": column", x.column(0, column, 1), empty.column(0, column, 1));
        for (int hand = 0; hand < 4; hand++) {
            due(of + ": hand", x.hand(hand, 0), empty.hand(hand, 0));
            due(of + ": mine", x.mine(hand), empty.mine(hand));
            due(of + ": firm", x.firm(hand), empty.firm(hand));
            due(of + ": relay", x.relay(hand, 0), empty.relay(hand, 0));
            due(of + ": was", x.was(hand, 0), empty.was(hand, 0));
            due(of + ": ask", x.ask(hand), empty.ask(hand));
        }
        due(of + ": sheep", x.sheep(0) * 100 + x.sheep(1), empty.sheep(0) * 100 + empty.sheep(1));
        due(of + ": best", x.best(), empty.best());
        for (int what = 0; what < 3; what++) due(of + ": mend", x.mend(9, what), empty.mend(9, what));
        due(of + ": never", x.never(), empty.never());
        due(of + ": luck", x.luck(5, 0), empty.luck(5, 0));
        due(of + ": ages", x.ages(7, 5, 0), empty.ages(7, 5, 0));
        due(of + ": write", x.write(0, 0), empty.write(0, 0));
    }

    // ---- promises 6 and 7

    @Edge(promise = 6, sentence = "The HAND of the STONE as told at a COURSE (0 to 4) and a COLUMN (0 to 7); NONE. BAD.")
    static void stoneOfEveryPlace() {
        Edges.range("stone, course", 0, 4, (x, v) -> x.stone(v, 0));
        Edges.range("stone, column", 0, 7, (x, v) -> x.stone(0, v));
        WallHands x = Edges.wall("abcdefgh;bcdefgha;cdefghab;defghabc;efghabcd", "");
        for (int course = 0; course < 5; course++) {
            for (int column = 0; column < 8; column++) {
                due("stone " + course + " " + column, x.stone(course, column), (course + column) % 8);
            }
        }
        WallHands one = Edges.wall("h", "");
        due("the one stone", one.stone(0, 0), 7);
        due("beside it", one.stone(0, 1), NONE);
        due("above it", one.stone(1, 0), NONE);
        due("far from it", one.stone(4, 7), NONE);
        due("a place that is empty", Edges.wall(".a", "").stone(0, 0), NONE);
    }

    @Edge(promise = 6, sentence = "The HAND of the STONE as told")
    static void stoneIsAsToldWhateverFell() {
        WallHands x = Edges.wall(".;b", "p1;p1");
        x.frost(0, 15);
        x.gapping(0, 0, 0);
        due("it fell", x.at(0, 1, 0, 0), NONE);
        due("it is as told", x.stone(1, 0), 1);
        due("another is set", x.at(0, 0, 0, 0), 0);
        due("none is told there", x.stone(0, 0), NONE);
    }

    @Edge(promise = 7, sentence = "Its mood (what = 0: 0 p, 1 t, 2 l, 3 s), how STRONG (1) a HAND is. BAD.")
    static void handOfEachMoodAndStrength() {
        Edges.rangeOfHandsTold("hand", (x, v) -> x.hand(v, 0));
        Edges.rangeOfHandsTold("hand, how strong", (x, v) -> x.hand(v, 1));
        Edges.range("hand, what", 0, 1, (x, v) -> x.hand(0, v));
        for (int mood = 0; mood < 4; mood++) {
            for (int strong = 1; strong <= 9; strong++) {
                WallHands x = Edges.wall("", "" + "ptls".charAt(mood) + strong);
                due("mood", x.hand(0, 0), mood);
                due("how strong", x.hand(0, 1), strong);
            }
        }
        WallHands full = Edges.wall("", Edges.FULL_HANDS);
        int[] strong = {1, 2, 3, 4, 5, 6, 7, 9};
        for (int hand = 0; hand < 8; hand++) {
            due("mood of hand " + hand, full.hand(hand, 0), hand % 4);
            due("strength of hand " + hand, full.hand(hand, 1), strong[hand]);
        }
        due("hand 0 of none", new WallHands().hand(0, 0), BAD);
        due("hand 1 of one", Edges.wall("b", "p1").hand(1, 0), BAD);
    }
}
