import java.util.Arrays;

/**
 * A drystone wall that remembers whose hand set each stone, and what frosts, gappings and sheep do
 * to it in twenty years. What each call promises stands in the document, DOC.md.
 *
 * Stones are kept as bits of a long, one long for each hand: bit 8 * course + column. So a whole
 * wall is looked at by a few shifts, and the many what-ifs that a plan tries stay cheap.
 */
public final class WallHands {
    public static final int NONE = -1, BAD = -2, NOT = -3, FULL = -4;

    private static final int NULL = 1, INDEX = 2, CAST = 3, STORE = 4, SIZE = 5;
    private static final int YEARS = 20, COURSES = 5, COLUMNS = 8, PLACES = COURSES * COLUMNS;
    private static final int HANDS = 8, STRONGEST = 9, FIERCEST = 15, HIGHEST_JUMP = 5;
    private static final int MOST_FROSTS = 6, MOST_GAPPINGS = 6, MOST_SEEN = 8;
    private static final int WALL_ROOM = 44, HANDS_ROOM = 23, SIDES = 4, SIXTEENTHS = 16;
    private static final int SHEETS = 4, FORMS = 3, MOST_ITEMS = 60, LOST = -1;
    private static final int PLAIN = 0, TEMPER = 1, LOVER = 2, STRIKER = 3;
    private static final String MOODS = "ptls";
    private static final long FIRST_COLUMN = 0x0101010101L, LAST_COLUMN = FIRST_COLUMN << 7;
    private static final long FIRST_COURSE = 0xFFL, EVERYWHERE = -1L;

    private final Text wallText = new Text(WALL_ROOM), handsText = new Text(HANDS_ROOM);
    private final Wall wall = new Wall();
    private final Hands hands = new Hands();
    private final Frosts frosts = new Frosts(), chanceFrosts = new Frosts();
    private final Gappings gappings = new Gappings();
    private final Sights sights = new Sights();
    private final Sheet[] sheets = new Sheet[SHEETS];
    private final Years told = new Years(wall, hands, gappings);
    private final Years trial = new Years(wall, hands, gappings);
    /** For ask: how many stones stand, a row of years for each strength that is tried. */
    private final int[] stood = new int[STRONGEST * YEARS];
    private boolean toldIsStale = true;
    private int latestFinding = 0;

    public WallHands() {
        for (int s = 0; s < SHEETS; s++) {
            sheets[s] = new Sheet();
        }
    }

    // ---- the wall, hands, sheep, frosts, gappings

    public int type(int text, int b) {
        if (!isEither(text) || !within(b, 0, 255)) {
            return BAD;
        }
        Text typed = textOf(text);
        if (typed.length >= typed.bytes.length) {
            return FULL;
        }
        typed.bytes[typed.length] = b;
        typed.length++;
        retell(text);
        return typed.length;
    }

    public int wipe(int text) {
        if (!isEither(text)) {
            return BAD;
        }
        Text wiped = textOf(text);
        int had = wiped.length;
        wiped.length = 0;
        retell(text);
        return had;
    }

    public int undo(int text) {
        if (!isEither(text)) {
            return BAD;
        }
        Text undone = textOf(text);
        if (undone.length == 0) {
            return NOT;
        }
        undone.length--;
        retell(text);
        return undone.length;
    }

    public int fault(int text) {
        if (!isEither(text)) {
            return BAD;
        }
        return text == 0 ? wall.fault : hands.fault;
    }

    public int stone(int course, int column) {
        if (!isPlace(course, column)) {
            return BAD;
        }
        return setterAt(wall.stones, 0, COLUMNS * course + column);
    }

    public int hand(int hand, int what) {
        if (!hands.has(hand) || !isEither(what)) {
            return BAD;
        }
        return what == 0 ? hands.mood[hand] : hands.strong[hand];
    }

    public int jump(int v) {
        if (!within(v, 1, HIGHEST_JUMP)) {
            return BAD;
        }
        int before = wall.jump;
        wall.jump = v;
        toldIsStale = true;
        return before;
    }

    public int frost(int year, int force) {
        if (!Frosts.mayBe(year, force)) {
            return BAD;
        }
        if (frosts.told >= MOST_FROSTS) {
            return FULL;
        }
        frosts.add(year, force);
        toldIsStale = true;
        return frosts.told;
    }

    public int gapping(int year, int column, int hand) {
        if (!isYear(year) || !within(column, 0, COLUMNS - 1) || !within(hand, 0, HANDS - 1)) {
            return BAD;
        }
        if (gappings.told >= MOST_GAPPINGS) {
            return FULL;
        }
        gappings.add(year, column, hand);
        toldIsStale = true;
        return gappings.told;
    }

    public int back(int what) {
        if (!isEither(what)) {
            return BAD;
        }
        int had = what == 0 ? frosts.told : gappings.told;
        if (had == 0) {
            return NOT;
        }
        if (what == 0) {
            frosts.told--;
        } else {
            gappings.told--;
        }
        toldIsStale = true;
        return had - 1;
    }

    public int read(int s) {
        if (!isSheet(s)) {
            return BAD;
        }
        Sheet sheet = sheets[s];
        if (sheet.form == LOST) {
            return found(NULL);
        }
        int before = frosts.told;
        for (int i = 0; i + 1 < sheet.size && frosts.told < MOST_FROSTS; i += 2) {
            if (!Frosts.mayBe(sheet.items[i], sheet.items[i + 1])) {
                break;
            }
            frosts.add(sheet.items[i], sheet.items[i + 1]);
        }
        toldIsStale = true;
        return frosts.told - before;
    }

    // ---- years

    public int at(int year, int course, int column, int what) {
        if (!isYear(year) || !isPlace(course, column) || !isEither(what)) {
            return BAD;
        }
        Years years = asTold();
        int place = COLUMNS * course + column;
        return what == 0 ? years.setterBehind(year, place) : years.holdBehind(year, place);
    }

    public int column(int year, int column, int what) {
        if (!isYear(year) || !within(column, 0, wall.columns - 1) || !isEither(what)) {
            return BAD;
        }
        Years years = asTold();
        return what == 0 ? years.highBehind(year, column) : years.open[year] >>> column & 1;
    }

    public int falls(int year) {
        return isYear(year) ? asTold().fallen[year] : BAD;
    }

    public int sheep(int what) {
        if (!isEither(what)) {
            return BAD;
        }
        Years years = asTold();
        return what == 0 ? years.firstOpenYear() : years.openYears();
    }

    public int mine(int hand) {
        return within(hand, 0, HANDS - 1) ? asTold().lastingOf(hand) : BAD;
    }

    public int best() {
        Years years = asTold();
        int best = NONE;
        int most = 0;
        for (int hand = 0; hand < HANDS; hand++) {
            int lasting = years.lastingOf(hand);
            if (lasting > most) {
                most = lasting;
                best = hand;
            }
        }
        return best;
    }

    // ---- plans

    public int mend(int year, int what) {
        if (!isYear(year) || !within(what, 0, 2)) {
            return BAD;
        }
        int fewest = NONE;
        int where = NONE;
        int who = NONE;
        for (int column = 0; column < wall.columns; column++) {
            for (int hand = 0; hand < hands.told; hand++) {
                gappings.add(year, column, hand);
                trial.run(frosts, 0);
                gappings.told--;
                int open = trial.openYears();
                if (fewest == NONE || open < fewest) {
                    fewest = open;
                    where = column;
                    who = hand;
                }
            }
        }
        return what == 0 ? where : what == 1 ? who : fewest;
    }

    public int firm(int hand) {
        if (!hands.has(hand)) {
            return BAD;
        }
        int own = hands.strong[hand];
        int least = NONE;
        for (int strong = 1; strong <= STRONGEST && least == NONE; strong++) {
            hands.strong[hand] = strong;
            trial.run(frosts, 0);
            if ((trial.losers >>> hand & 1) == 0) {
                least = strong;
            }
        }
        hands.strong[hand] = own;
        return least;
    }

    public int relay(int hand, int what) {
        if (!hands.has(hand) || !isEither(what)) {
            return BAD;
        }
        int fewest = NONE;
        int which = NONE;
        for (int place = 0; place < PLACES; place++) {
            int setter = setterAt(wall.stones, 0, place);
            if (setter == NONE) {
                continue;
            }
            wall.passOn(place, setter, hand);
            trial.run(frosts, 0);
            wall.passOn(place, hand, setter);
            int falling = trial.allFallen();
            if (fewest == NONE || falling < fewest) {
                fewest = falling;
                which = place;
            }
        }
        return what == 0 ? which : fewest;
    }

    public int lift(int course, int column) {
        if (!isPlace(course, column)) {
            return BAD;
        }
        long all = union(wall.stones);
        long lifted = 1L << COLUMNS * course + column;
        if ((all & lifted) == 0) {
            return NONE;
        }
        long stayElse = borneOf(all) & ~lifted;
        return Long.bitCount(stayElse & ~borneOf(all & ~lifted));
    }

    // ---- seen, luck, ages

    public int seen(int year, int course, int column, int hand) {
        if (!isYear(year) || !isPlace(course, column) || !within(hand, 0, HANDS)) {
            return BAD;
        }
        if (sights.told >= MOST_SEEN) {
            return FULL;
        }
        sights.add(year, COLUMNS * course + column, hand == HANDS ? NONE : hand);
        return sights.told;
    }

    public int forget() {
        int had = sights.told;
        sights.told = 0;
        return had;
    }

    public int never() {
        int bits = 0;
        for (int i = 0; i < frosts.told; i++) {
            trial.run(frosts, 1 << i);
            if (sights.comeOutIn(trial)) {
                bits |= 1 << i;
            }
        }
        return bits;
    }

    public int was(int hand, int what) {
        if (!hands.has(hand) || !isEither(what)) {
            return BAD;
        }
        int[] row = what == 0 ? hands.strong : hands.mood;
        int least = what == 0 ? 1 : PLAIN;
        int most = what == 0 ? STRONGEST : STRIKER;
        int own = row[hand];
        int bits = 0;
        for (int v = least; v <= most; v++) {
            row[hand] = v;
            trial.run(frosts, 0);
            if (sights.comeOutIn(trial)) {
                bits |= 1 << v;
            }
        }
        row[hand] = own;
        return bits;
    }

    public int ask(int hand) {
        if (!hands.has(hand)) {
            return BAD;
        }
        int own = hands.strong[hand];
        int rows = 0;
        for (int strong = 1; strong <= STRONGEST; strong++) {
            hands.strong[hand] = strong;
            trial.run(frosts, 0);
            if (sights.comeOutIn(trial)) {
                trial.tallyInto(stood, rows * YEARS);
                rows++;
            }
        }
        hands.strong[hand] = own;
        int best = 0;
        int least = mostAlike(rows, 0);
        for (int year = 1; year < YEARS; year++) {
            int alike = mostAlike(rows, year);
            if (alike < least) {
                least = alike;
                best = year;
            }
        }
        return best;
    }

    public long luck(int c, int what) {
        if (!within(c, 0, SIXTEENTHS) || !isEither(what)) {
            return Long.MIN_VALUE - BAD;
        }
        long above = 0;
        for (int absent = 0; absent < 1 << frosts.told; absent++) {
            trial.run(frosts, absent);
            if (trial.openYears() == 0) {
                above += waysOf(absent, c);
            }
        }
        // Below stands a power of two alone, so that halving both brings lowest terms (and 0 by 1).
        int halvings = 4 * frosts.told;
        long below = 1L << halvings;
        for (int i = 0; i < halvings && (above & 1) == 0; i++) {
            above >>= 1;
            below >>= 1;
        }
        return what == 0 ? above : below;
    }

    public int ages(int seed, int n, int what) {
        if (!within(n, 0, MOST_FROSTS) || !isEither(what)) {
            return BAD;
        }
        int lot = seed;
        chanceFrosts.told = 0;
        for (int i = 0; i < n; i++) {
            lot = nextSeed(lot);
            int year = (lot >>> 16) % YEARS;
            lot = nextSeed(lot);
            chanceFrosts.add(year, (lot >>> 16) % FIERCEST + 1);
        }
        trial.run(chanceFrosts, 0);
        return what == 0 ? Long.bitCount(trial.standing[YEARS - 1]) : trial.openYears();
    }

    // ---- sheets

    public int sheet(int s, int form, int n) {
        if (!isSheet(s) || !isForm(form) || n > MOST_ITEMS) {
            return BAD;
        }
        if (n < 0) {
            return found(SIZE);
        }
        Sheet sheet = sheets[s];
        Arrays.fill(sheet.items, 0);
        sheet.form = form;
        sheet.size = n;
        return n;
    }

    public int lose(int s) {
        if (!isSheet(s)) {
            return BAD;
        }
        Sheet sheet = sheets[s];
        if (sheet.form == LOST) {
            return found(NULL);
        }
        sheet.form = LOST;
        return sheet.size;
    }

    public int put(int s, int form, int i, int v) {
        if (!isSheet(s) || !isForm(form)) {
            return BAD;
        }
        int finding = sheets[s].findingAt(form, i);
        if (finding != 0) {
            return found(finding);
        }
        sheets[s].items[i] = form == 0 ? (byte) v : form == 1 ? (short) v : v;
        return 1;
    }

    public int get(int s, int form, int i) {
        if (!isSheet(s) || !isForm(form)) {
            return Integer.MIN_VALUE;
        }
        int finding = sheets[s].findingAt(form, i);
        if (finding != 0) {
            found(finding);
            return Integer.MIN_VALUE;
        }
        return sheets[s].items[i];
    }

    public int copy(int s, int i, int t, int j, int n) {
        if (!isSheet(s) || !isSheet(t)) {
            return BAD;
        }
        Sheet from = sheets[s];
        Sheet to = sheets[t];
        if (from.form == LOST || to.form == LOST) {
            return found(NULL);
        }
        if (from.form != to.form) {
            return found(STORE);
        }
        if (!from.hasItems(i, n) || !to.hasItems(j, n)) {
            return found(INDEX);
        }
        System.arraycopy(from.items, i, to.items, j, n);
        return 1;
    }

    public int write(int year, int s) {
        if (!isYear(year) || !isSheet(s)) {
            return BAD;
        }
        Sheet sheet = sheets[s];
        if (sheet.form == LOST) {
            return found(NULL);
        }
        int n = Math.min(sheet.size, wall.columns);
        Years years = asTold();
        for (int column = 0; column < n; column++) {
            sheet.items[column] = years.highBehind(year, column);
        }
        return n;
    }

    public int count(int what) {
        switch (what) {
            case 0: return Long.bitCount(union(wall.stones));
            case 1: return hands.told;
            case 2: return wallText.length;
            case 3: return handsText.length;
            case 4: return frosts.told;
            case 5: return gappings.told;
            case 6: return asTold().allFallen();
            case 7: return sights.told;
            case 8: return latestFinding;
            default: return BAD;
        }
    }

    public long digest() {
        long h = 17;
        for (int what = 0; what <= 7; what++) {
            h = 31 * h + count(what);
        }
        h = 31 * h + fault(0);
        h = 31 * h + fault(1);
        for (int course = 0; course < COURSES; course++) {
            for (int column = 0; column < COLUMNS; column++) {
                h = 31 * h + stone(course, column);
                h = 31 * h + at(0, course, column, 0);
                h = 31 * h + at(0, course, column, 1);
                h = 31 * h + at(19, course, column, 0);
                h = 31 * h + at(19, course, column, 1);
                h = 31 * h + lift(course, column);
            }
        }
        for (int column = 0; column < wall.columns; column++) {
            h = 31 * h + column(9, column, 0);
            h = 31 * h + column(9, column, 1);
            h = 31 * h + column(19, column, 0);
            h = 31 * h + column(19, column, 1);
        }
        for (int year = 0; year < YEARS; year++) {
            h = 31 * h + falls(year);
        }
        for (int hand = 0; hand < hands.told; hand++) {
            h = 31 * h + hand(hand, 0);
            h = 31 * h + hand(hand, 1);
            h = 31 * h + mine(hand);
            h = 31 * h + firm(hand);
            h = 31 * h + relay(hand, 0);
            h = 31 * h + relay(hand, 1);
            h = 31 * h + was(hand, 0);
            h = 31 * h + was(hand, 1);
            h = 31 * h + ask(hand);
        }
        h = 31 * h + sheep(0);
        h = 31 * h + sheep(1);
        h = 31 * h + best();
        h = 31 * h + mend(5, 0);
        h = 31 * h + mend(5, 1);
        h = 31 * h + mend(5, 2);
        h = 31 * h + never();
        h = 31 * h + luck(5, 0);
        h = 31 * h + luck(5, 1);
        h = 31 * h + ages(7, 5, 0);
        h = 31 * h + ages(7, 5, 1);
        return h;
    }

    // ---- what the calls share

    private Text textOf(int text) {
        return text == 0 ? wallText : handsText;
    }

    private void retell(int text) {
        if (text == 0) {
            wall.tell(wallText);
        } else {
            hands.tell(handsText);
        }
        toldIsStale = true;
    }

    private Years asTold() {
        if (toldIsStale) {
            told.run(frosts, 0);
            toldIsStale = false;
        }
        return told;
    }

    private int found(int finding) {
        latestFinding = finding;
        return -10 - finding;
    }

    /** The greatest number of the rows in stood that have the same number behind a year. */
    private int mostAlike(int rows, int year) {
        int most = 0;
        for (int i = 0; i < rows; i++) {
            int alike = 0;
            for (int j = 0; j < rows; j++) {
                if (stood[i * YEARS + year] == stood[j * YEARS + year]) {
                    alike++;
                }
            }
            most = Math.max(most, alike);
        }
        return most;
    }

    /** The chance that just these frosts are absent, times 16 for each frost. */
    private long waysOf(int absent, int c) {
        long ways = 1;
        for (int i = 0; i < frosts.told; i++) {
            ways *= (absent >>> i & 1) == 0 ? c : SIXTEENTHS - c;
        }
        return ways;
    }

    private static int nextSeed(int seed) {
        return 1103515245 * seed + 12345;
    }

    private static boolean within(int v, int least, int most) {
        return v >= least && v <= most;
    }

    private static boolean isEither(int what) {
        return what == 0 || what == 1;
    }

    private static boolean isYear(int year) {
        return within(year, 0, YEARS - 1);
    }

    private static boolean isPlace(int course, int column) {
        return within(course, 0, COURSES - 1) && within(column, 0, COLUMNS - 1);
    }

    private static boolean isSheet(int s) {
        return within(s, 0, SHEETS - 1);
    }

    private static boolean isForm(int form) {
        return within(form, 0, FORMS - 1);
    }

    private static boolean isAt(long stones, int place) {
        return (stones >>> place & 1) != 0;
    }

    /** Whose stone is at a place, of the eight longs from an index on. */
    private static int setterAt(long[] stones, int from, int place) {
        for (int hand = 0; hand < HANDS; hand++) {
            if (isAt(stones[from + hand], place)) {
                return hand;
            }
        }
        return NONE;
    }

    private static long union(long[] stones) {
        long all = 0;
        for (int hand = 0; hand < HANDS; hand++) {
            all |= stones[hand];
        }
        return all;
    }

    /** The stones that are left when those that are not borne have fallen, from the lowest course on. */
    private static long borneOf(long stones) {
        long below = stones & FIRST_COURSE;
        long left = below;
        for (int course = 1; course < COURSES; course++) {
            long bearing = below | below << 1 & below >>> 1;
            below = stones >>> COLUMNS * course & FIRST_COURSE & bearing;
            left |= below << COLUMNS * course;
        }
        return left;
    }

    /** The places that have at least so many neighbours among the stones, for all places at once. */
    private static long besideAtLeast(long stones, int least) {
        if (least <= 0) {
            return EVERYWHERE;
        }
        long left = (stones & ~LAST_COLUMN) << 1;
        long right = (stones & ~FIRST_COLUMN) >>> 1;
        long below = stones << COLUMNS;
        long above = stones >>> COLUMNS;
        switch (least) {
            case 1: return left | right | below | above;
            case 2: return left & right | below & above | (left | right) & (below | above);
            case 3: return left & right & (below | above) | below & above & (left | right);
            case 4: return left & right & below & above;
            default: return 0;
        }
    }

    /** Bytes, as many as there are, in a row of all that it has room for. */
    private static final class Text {
        final int[] bytes;
        int length;

        Text(int room) {
            bytes = new int[room];
        }
    }

    /** The wall as told, and how high sheep jump at it. */
    private static final class Wall {
        final long[] stones = new long[HANDS];
        int courses;
        int columns;
        int fault = NONE;
        int jump = 2;

        void tell(Text text) {
            Arrays.fill(stones, 0L);
            courses = 0;
            columns = 0;
            fault = firstFault(text);
            if (fault == NONE && text.length > 0) {
                lay(text);
            }
        }

        private void lay(Text text) {
            int course = 0;
            int column = 0;
            for (int i = 0; i < text.length; i++) {
                int b = text.bytes[i];
                if (b == ';') {
                    course++;
                    column = 0;
                } else {
                    if (within(b, 'a', 'h')) {
                        stones[b - 'a'] |= 1L << COLUMNS * course + column;
                    }
                    column++;
                }
            }
            courses = course + 1;
            columns = column;
        }

        void passOn(int place, int from, int to) {
            stones[from] &= ~(1L << place);
            stones[to] |= 1L << place;
        }

        private static int firstFault(Text text) {
            int course = 0;
            int column = 0;
            int least = 1;
            int most = COLUMNS;
            for (int i = 0; i < text.length; i++) {
                int b = text.bytes[i];
                if (b == ';') {
                    if (column < least) {
                        return i;
                    }
                    least = column;
                    most = column;
                    course++;
                    column = 0;
                } else {
                    if (course == COURSES || column == most || b != '.' && !within(b, 'a', 'h')) {
                        return i;
                    }
                    column++;
                }
            }
            return text.length > 0 && column < least ? text.length : NONE;
        }
    }

    /** Hands as told: of what mood, how strong. */
    private static final class Hands {
        final int[] mood = new int[HANDS];
        final int[] strong = new int[HANDS];
        int told;
        int fault = NONE;

        boolean has(int hand) {
            return within(hand, 0, told - 1);
        }

        /** Each hand takes three bytes with its ;, so that a ninth has no room in the text. */
        void tell(Text text) {
            fault = firstFault(text);
            told = fault == NONE ? (text.length + 1) / 3 : 0;
            for (int hand = 0; hand < told; hand++) {
                mood[hand] = MOODS.indexOf((char) text.bytes[3 * hand]);
                strong[hand] = text.bytes[3 * hand + 1] - '0';
            }
        }

        private static int firstFault(Text text) {
            for (int i = 0; i < text.length; i++) {
                int b = text.bytes[i];
                boolean well = i % 3 == 0 ? MOODS.indexOf((char) b) >= 0
                        : i % 3 == 1 ? within(b, '1', '9') : b == ';';
                if (!well) {
                    return i;
                }
            }
            return text.length == 0 || text.length % 3 == 2 ? NONE : text.length;
        }
    }

    /** Frosts, in the order in which they were told. */
    private static final class Frosts {
        final int[] year = new int[MOST_FROSTS];
        final int[] force = new int[MOST_FROSTS];
        int told;

        static boolean mayBe(int year, int force) {
            return isYear(year) && within(force, 1, FIERCEST);
        }

        void add(int newYear, int newForce) {
            if (told < MOST_FROSTS) {
                year[told] = newYear;
                force[told] = newForce;
                told++;
            }
        }
    }

    /** Gappings, in the order in which they were told, with room for one more that mend tries. */
    private static final class Gappings {
        final int[] year = new int[MOST_GAPPINGS + 1];
        final int[] column = new int[MOST_GAPPINGS + 1];
        final int[] hand = new int[MOST_GAPPINGS + 1];
        int told;

        void add(int newYear, int newColumn, int newHand) {
            if (told <= MOST_GAPPINGS) {
                year[told] = newYear;
                column[told] = newColumn;
                hand[told] = newHand;
                told++;
            }
        }
    }

    /** What was seen: behind a year, at a place, a stone of a hand or none. */
    private static final class Sights {
        final int[] year = new int[MOST_SEEN];
        final int[] place = new int[MOST_SEEN];
        final int[] setter = new int[MOST_SEEN];
        int told;

        void add(int newYear, int newPlace, int newSetter) {
            if (told < MOST_SEEN) {
                year[told] = newYear;
                place[told] = newPlace;
                setter[told] = newSetter;
                told++;
            }
        }

        boolean comeOutIn(Years years) {
            for (int i = 0; i < told; i++) {
                if (years.setterBehind(year[i], place[i]) != setter[i]) {
                    return false;
                }
            }
            return true;
        }
    }

    /** A row of items of a form, or lost. */
    private static final class Sheet {
        final int[] items = new int[MOST_ITEMS];
        int form = LOST;
        int size;

        /** What is found when item i is treated as of a form; 0: nothing. */
        int findingAt(int asked, int i) {
            if (form == LOST) {
                return NULL;
            }
            if (form != asked) {
                return CAST;
            }
            return within(i, 0, size - 1) ? 0 : INDEX;
        }

        boolean hasItems(int from, int n) {
            return within(from, 0, size) && within(n, 0, size - from);
        }
    }

    /** What becomes of the wall in twenty years, as it is told when they are run. */
    private static final class Years {
        private final Wall wall;
        private final Hands hands;
        private final Gappings gappings;
        /** The year that is at work: each hand's stones, and all of them. */
        private final long[] now = new long[HANDS];
        private long all;
        /** Behind each year: eight longs of stones, all of them, columns where sheep get through. */
        private final long[] stones = new long[YEARS * HANDS];
        final long[] standing = new long[YEARS];
        final int[] open = new int[YEARS];
        final int[] fallen = new int[YEARS];
        /** As bits, the hands of which a stone fell in any year. */
        int losers;

        Years(Wall wall, Hands hands, Gappings gappings) {
            this.wall = wall;
            this.hands = hands;
            this.gappings = gappings;
        }

        /** Absent, as bits, are frosts that are told but were not. */
        void run(Frosts frosts, int absent) {
            System.arraycopy(wall.stones, 0, now, 0, HANDS);
            all = union(now);
            losers = 0;
            for (int year = 0; year < YEARS; year++) {
                fallen[year] = freeze(frosts, absent, year);
                boolean mended = fillGaps(year);
                System.arraycopy(now, 0, stones, HANDS * year, HANDS);
                standing[year] = all;
                boolean same = year > 0 && fallen[year] == 0 && !mended;
                open[year] = same ? open[year - 1] : openColumns();
            }
        }

        private int freeze(Frosts frosts, int absent, int year) {
            int falling = 0;
            boolean frosty = false;
            for (int i = 0; i < frosts.told; i++) {
                if (frosts.year[i] == year && (absent >>> i & 1) == 0) {
                    long holding = 0;
                    for (int hand = 0; hand < hands.told; hand++) {
                        holding |= holdingOf(hand, frosts.force[i]);
                    }
                    frosty = true;
                    falling += leave(borneOf(holding));
                }
            }
            return frosty ? falling : leave(borneOf(all));
        }

        /** Lets all stones fall but those that stay: how many. */
        private int leave(long staying) {
            long falling = all & ~staying;
            if (falling == 0) {
                return 0;
            }
            for (int hand = 0; hand < HANDS; hand++) {
                if ((now[hand] & falling) != 0) {
                    losers |= 1 << hand;
                    now[hand] &= staying;
                }
            }
            all = staying;
            return Long.bitCount(falling);
        }

        /** A hand's stones that hold by a force or more, so that such a frost leaves them. */
        private long holdingOf(int hand, int force) {
            if (hand >= hands.told || now[hand] == 0) {
                return 0;
            }
            long own = now[hand];
            int need = force - hands.strong[hand];
            long holding = 0;
            switch (hands.mood[hand]) {
                case TEMPER:
                    for (int others = 0; others <= SIDES; others++) {
                        holding |= besideAtLeast(own, need + others)
                                & ~besideAtLeast(all & ~own, others + 1);
                    }
                    break;
                case LOVER:
                    holding = besideAtLeast(own, need)
                            | besideAtLeast(own, need - 2) & besideAtLeast(nowOf(LOVER) & ~own, 1);
                    break;
                case STRIKER:
                    for (int course = 0; course < COURSES; course++) {
                        holding |= besideAtLeast(own, need + course) & FIRST_COURSE << COLUMNS * course;
                    }
                    break;
                default:
                    holding = besideAtLeast(own, need);
                    break;
            }
            return own & holding;
        }

        /** The stones of all hands of a mood. */
        private long nowOf(int mood) {
            long found = 0;
            for (int hand = 0; hand < hands.told; hand++) {
                if (hands.mood[hand] == mood) {
                    found |= now[hand];
                }
            }
            return found;
        }

        private boolean fillGaps(int year) {
            boolean mended = false;
            for (int i = 0; i < gappings.told; i++) {
                if (gappings.year[i] == year && gappings.column[i] < wall.columns) {
                    mended |= fillGap(gappings.column[i], gappings.hand[i]);
                }
            }
            return mended;
        }

        /** The lowest empty place is in course 0 or right above a stone, so it is always borne. */
        private boolean fillGap(int column, int hand) {
            for (int course = 0; course < wall.courses; course++) {
                long gap = 1L << COLUMNS * course + column;
                if ((all & gap) == 0) {
                    now[hand] |= gap;
                    all |= gap;
                    return true;
                }
            }
            return false;
        }

        /** As bits, the columns where sheep get through. */
        private int openColumns() {
            long lovers = nowOf(LOVER);
            long tempers = nowOf(TEMPER);
            int found = 0;
            for (int column = 0; column < wall.columns; column++) {
                long places = FIRST_COLUMN << column;
                int enough = (lovers & places) == 0 ? wall.jump : wall.jump + 1;
                if ((tempers & places) == 0 && Long.bitCount(all & places) < enough) {
                    found |= 1 << column;
                }
            }
            return found;
        }

        int setterBehind(int year, int place) {
            return setterAt(stones, HANDS * year, place);
        }

        /** By how much a stone holds: the greatest force that it withstands. */
        int holdBehind(int year, int place) {
            int hand = setterBehind(year, place);
            if (hand == NONE) {
                return NONE;
            }
            System.arraycopy(stones, HANDS * year, now, 0, HANDS);
            all = standing[year];
            int hold = 0;
            for (int force = 1; force <= FIERCEST; force++) {
                if (isAt(holdingOf(hand, force), place)) {
                    hold = force;
                }
            }
            return hold;
        }

        int highBehind(int year, int column) {
            return Long.bitCount(standing[year] & FIRST_COLUMN << column);
        }

        int lastingOf(int hand) {
            return Long.bitCount(stones[HANDS * (YEARS - 1) + hand]);
        }

        int firstOpenYear() {
            for (int year = 0; year < YEARS; year++) {
                if (open[year] != 0) {
                    return year;
                }
            }
            return NONE;
        }

        int openYears() {
            int years = 0;
            for (int year = 0; year < YEARS; year++) {
                if (open[year] != 0) {
                    years++;
                }
            }
            return years;
        }

        int allFallen() {
            int sum = 0;
            for (int year = 0; year < YEARS; year++) {
                sum += fallen[year];
            }
            return sum;
        }

        void tallyInto(int[] row, int from) {
            for (int year = 0; year < YEARS && from + year < row.length; year++) {
                row[from + year] = Long.bitCount(standing[year]);
            }
        }
    }
}
