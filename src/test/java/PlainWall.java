import java.util.ArrayList;
import java.util.List;

/**
 * The document once more, in the plainest form: a grid of hands, every year run anew for every call,
 * sheets as real Java arrays. The random runs compare WallHands with it; it shares no code with it.
 */
public final class PlainWall {
    private final StringBuilder[] texts = {new StringBuilder(), new StringBuilder()};
    private int jump = 2;
    private final List<int[]> frosts = new ArrayList<>();
    private final List<int[]> gappings = new ArrayList<>();
    private final List<int[]> seen = new ArrayList<>();
    private final Object[] sheets = new Object[4];
    private int finding;

    // ---- texts

    public int type(int text, int b) {
        if (text < 0 || text > 1 || b < 0 || b > 255) return -2;
        if (texts[text].length() == (text == 0 ? 44 : 23)) return -4;
        texts[text].append((char) b);
        return texts[text].length();
    }

    public int wipe(int text) {
        if (text < 0 || text > 1) return -2;
        int n = texts[text].length();
        texts[text].setLength(0);
        return n;
    }

    public int undo(int text) {
        if (text < 0 || text > 1) return -2;
        if (texts[text].length() == 0) return -3;
        texts[text].setLength(texts[text].length() - 1);
        return texts[text].length();
    }

    /** Tries all ways in which a text might go on: the fault is behind the longest part that can. */
    public int fault(int text) {
        if (text < 0 || text > 1) return -2;
        String t = texts[text].toString();
        if (whole(text, t)) return -1;
        for (int n = 1; n <= t.length(); n++) {
            if (!part(text, t.substring(0, n))) return n - 1;
        }
        return t.length();
    }

    private static boolean whole(int text, String t) {
        if (t.isEmpty()) return true;
        if (text == 1) return t.matches("[ptls][1-9](;[ptls][1-9]){0,7}");
        if (!t.matches("[a-h.]{1,8}(;[a-h.]{1,8}){0,4}")) return false;
        String[] courses = t.split(";", -1);
        for (String course : courses) if (course.length() != courses[0].length()) return false;
        return true;
    }

    /** Whether a text may be the beginning of a longer one, or of one with a ; at the end. */
    private static boolean part(int text, String t) {
        if (text == 1) {
            for (String end : new String[] {"", "1", "p1"}) if (whole(1, t + end)) return true;
            // a ; is no fault, even if no room is left for a hand behind it
            return closes(1, t);
        }
        if (t.endsWith(";")) return closes(0, t);
        for (int n = 0; n < 8; n++) if (whole(0, t + "........".substring(0, n))) return true;
        return false;
    }

    private static boolean closes(int text, String t) {
        return t.length() > 1 && t.endsWith(";") && whole(text, t.substring(0, t.length() - 1));
    }

    private String[] courses() {
        String t = texts[0].toString();
        return t.isEmpty() || !whole(0, t) ? new String[0] : t.split(";");
    }

    private int columns() {
        String[] courses = courses();
        return courses.length == 0 ? 0 : courses[0].length();
    }

    /** The wall as told: 5 courses of 8 hands; -1: no stone. */
    private int[][] grid() {
        int[][] grid = new int[5][8];
        for (int[] course : grid) java.util.Arrays.fill(course, -1);
        String[] courses = courses();
        for (int y = 0; y < courses.length; y++) {
            for (int x = 0; x < courses[y].length(); x++) {
                if (courses[y].charAt(x) != '.') grid[y][x] = courses[y].charAt(x) - 'a';
            }
        }
        return grid;
    }

    /** Hands as told: mood, strength. */
    private int[][] hands() {
        String t = texts[1].toString();
        if (t.isEmpty() || !whole(1, t)) return new int[0][];
        String[] parts = t.split(";");
        int[][] hands = new int[parts.length][];
        for (int i = 0; i < parts.length; i++) {
            hands[i] = new int[] {"ptls".indexOf(parts[i].charAt(0)), parts[i].charAt(1) - '0'};
        }
        return hands;
    }

    public int stone(int course, int column) {
        if (course < 0 || course > 4 || column < 0 || column > 7) return -2;
        return grid()[course][column];
    }

    public int hand(int hand, int what) {
        int[][] hands = hands();
        if (hand < 0 || hand >= hands.length || what < 0 || what > 1) return -2;
        return hands[hand][what];
    }

    public int jump(int v) {
        if (v < 1 || v > 5) return -2;
        int was = jump;
        jump = v;
        return was;
    }

    public int frost(int year, int force) {
        if (year < 0 || year > 19 || force < 1 || force > 15) return -2;
        if (frosts.size() == 6) return -4;
        frosts.add(new int[] {year, force});
        return frosts.size();
    }

    public int gapping(int year, int column, int hand) {
        if (year < 0 || year > 19 || column < 0 || column > 7 || hand < 0 || hand > 7) return -2;
        if (gappings.size() == 6) return -4;
        gappings.add(new int[] {year, column, hand});
        return gappings.size();
    }

    public int back(int what) {
        if (what < 0 || what > 1) return -2;
        List<int[]> list = what == 0 ? frosts : gappings;
        if (list.isEmpty()) return -3;
        list.remove(list.size() - 1);
        return list.size();
    }

    public int read(int s) {
        if (s < 0 || s > 3) return -2;
        if (sheets[s] == null) return found(1);
        int came = 0;
        int n = java.lang.reflect.Array.getLength(sheets[s]);
        for (int i = 0; i + 2 <= n; i += 2) {
            int year = java.lang.reflect.Array.getInt(sheets[s], i);
            int force = java.lang.reflect.Array.getInt(sheets[s], i + 1);
            if (frost(year, force) < 0) break;
            came++;
        }
        return came;
    }

    // ---- years

    /** All years of one story; behind[y] is the grid behind year y. */
    private static final class Story {
        final int[][][] behind = new int[20][][];
        final int[] falls = new int[20];
        final int[] fallsOfHand = new int[8];
        int[][] hands;
        int courses, columns, jump;

        int total() {
            int n = 0;
            for (int f : falls) n += f;
            return n;
        }

        int standing(int year) {
            int n = 0;
            for (int[] course : behind[year]) for (int hand : course) if (hand >= 0) n++;
            return n;
        }

        int high(int year, int column) {
            int n = 0;
            for (int[] course : behind[year]) if (course[column] >= 0) n++;
            return n;
        }

        boolean through(int year, int column) {
            int lovers = 0, tempers = 0;
            for (int[] course : behind[year]) {
                int hand = course[column];
                if (hand < 0 || hand >= hands.length) continue;
                if (hands[hand][0] == 2) lovers++;
                if (hands[hand][0] == 1) tempers++;
            }
            if (tempers > 0) return false;
            int high = high(year, column);
            return high < jump || high == jump && lovers > 0;
        }

        boolean anywhere(int year) {
            for (int x = 0; x < columns; x++) if (through(year, x)) return true;
            return false;
        }

        int sheepYears() {
            int n = 0;
            for (int y = 0; y < 20; y++) if (anywhere(y)) n++;
            return n;
        }
    }

    private static int in(int[][] grid, int course, int column) {
        return course < 0 || course > 4 || column < 0 || column > 7 ? -1 : grid[course][column];
    }

    private static int hold(int[][] grid, int[][] hands, int course, int column) {
        int hand = grid[course][column];
        if (hand >= hands.length) return 0;
        int hold = hands[hand][1];
        int mood = hands[hand][0];
        boolean love = false;
        int[][] steps = {{0, -1}, {0, 1}, {-1, 0}, {1, 0}};
        for (int[] step : steps) {
            int other = in(grid, course + step[0], column + step[1]);
            if (other < 0) continue;
            if (other == hand) hold++;
            else if (mood == 1) hold--;
            else if (other < hands.length && hands[other][0] == 2) love = true;
        }
        if (mood == 2 && love) hold += 2;
        if (mood == 3) hold -= course;
        return Math.max(0, hold);
    }

    private static boolean borne(int[][] grid, int course, int column) {
        if (course == 0 || in(grid, course - 1, column) >= 0) return true;
        return in(grid, course - 1, column - 1) >= 0 && in(grid, course - 1, column + 1) >= 0;
    }

    private static void drop(int[][] grid, int course, int column, Story story, int year) {
        story.falls[year]++;
        story.fallsOfHand[grid[course][column]]++;
        grid[course][column] = -1;
    }

    private static void settle(int[][] grid, Story story, int year) {
        for (int c = 0; c < 5; c++) {
            for (int x = 0; x < 8; x++) {
                if (grid[c][x] >= 0 && !borne(grid, c, x)) drop(grid, c, x, story, year);
            }
        }
    }

    private static int[][] twin(int[][] grid) {
        int[][] twin = new int[5][];
        for (int c = 0; c < 5; c++) twin[c] = grid[c].clone();
        return twin;
    }

    private Story story(int[][] start, int[][] hands, List<int[]> frosts, List<int[]> gappings) {
        Story story = new Story();
        story.hands = hands;
        story.courses = courses().length;
        story.columns = columns();
        story.jump = jump;
        int[][] grid = twin(start);
        for (int year = 0; year < 20; year++) {
            boolean frosty = false;
            for (int[] frost : frosts) {
                if (frost[0] != year) continue;
                frosty = true;
                int[][] before = twin(grid);
                for (int c = 0; c < 5; c++) {
                    for (int x = 0; x < 8; x++) {
                        if (before[c][x] >= 0 && hold(before, hands, c, x) < frost[1]) {
                            drop(grid, c, x, story, year);
                        }
                    }
                }
                settle(grid, story, year);
            }
            if (!frosty) settle(grid, story, year);
            for (int[] gapping : gappings) {
                if (gapping[0] != year || gapping[1] >= story.columns) continue;
                int c = 0;
                while (c < story.courses && grid[c][gapping[1]] >= 0) c++;
                if (c < story.courses && borne(grid, c, gapping[1])) grid[c][gapping[1]] = gapping[2];
            }
            story.behind[year] = twin(grid);
        }
        return story;
    }

    private Story told() {
        return story(grid(), hands(), frosts, gappings);
    }

    public int at(int year, int course, int column, int what) {
        if (year < 0 || year > 19 || course < 0 || course > 4 || column < 0 || column > 7) return -2;
        if (what < 0 || what > 1) return -2;
        int[][] grid = told().behind[year];
        if (grid[course][column] < 0) return -1;
        return what == 0 ? grid[course][column] : hold(grid, hands(), course, column);
    }

    public int column(int year, int column, int what) {
        if (year < 0 || year > 19 || column < 0 || column >= columns() || what < 0 || what > 1) return -2;
        Story told = told();
        return what == 0 ? told.high(year, column) : told.through(year, column) ? 1 : 0;
    }

    public int falls(int year) {
        return year < 0 || year > 19 ? -2 : told().falls[year];
    }

    public int sheep(int what) {
        if (what < 0 || what > 1) return -2;
        Story told = told();
        if (what == 1) return told.sheepYears();
        for (int y = 0; y < 20; y++) if (told.anywhere(y)) return y;
        return -1;
    }

    public int mine(int hand) {
        if (hand < 0 || hand > 7) return -2;
        int n = 0;
        for (int[] course : told().behind[19]) for (int setter : course) if (setter == hand) n++;
        return n;
    }

    public int best() {
        int best = -1;
        for (int hand = 7; hand >= 0; hand--) {
            if (mine(hand) > 0 && (best < 0 || mine(hand) >= mine(best))) best = hand;
        }
        return best;
    }

    // ---- plans

    public int mend(int year, int what) {
        if (year < 0 || year > 19 || what < 0 || what > 2) return -2;
        int[] best = null;
        for (int column = 0; column < columns(); column++) {
            for (int hand = 0; hand < hands().length; hand++) {
                List<int[]> more = new ArrayList<>(gappings);
                more.add(new int[] {year, column, hand});
                int n = story(grid(), hands(), frosts, more).sheepYears();
                if (best == null || n < best[2]) best = new int[] {column, hand, n};
            }
        }
        return best == null ? -1 : best[what];
    }

    private Story withHand(int hand, int which, int v) {
        int[][] hands = hands();
        hands[hand][which] = v;
        return story(grid(), hands, frosts, gappings);
    }

    public int firm(int hand) {
        if (hand < 0 || hand >= hands().length) return -2;
        for (int v = 1; v <= 9; v++) if (withHand(hand, 1, v).fallsOfHand[hand] == 0) return v;
        return -1;
    }

    public int relay(int hand, int what) {
        if (hand < 0 || hand >= hands().length || what < 0 || what > 1) return -2;
        int[] best = null;
        for (int c = 0; c < 5; c++) {
            for (int x = 0; x < 8; x++) {
                int[][] grid = grid();
                if (grid[c][x] < 0) continue;
                grid[c][x] = hand;
                int n = story(grid, hands(), frosts, gappings).total();
                if (best == null || n < best[1]) best = new int[] {8 * c + x, n};
            }
        }
        return best == null ? -1 : best[what];
    }

    public int lift(int course, int column) {
        if (course < 0 || course > 4 || column < 0 || column > 7) return -2;
        int[][] with = grid();
        int[][] without = grid();
        if (with[course][column] < 0) return -1;
        without[course][column] = -1;
        settle(with, new Story(), 0);
        settle(without, new Story(), 0);
        int n = 0;
        for (int c = 0; c < 5; c++) {
            for (int x = 0; x < 8; x++) {
                boolean other = c != course || x != column;
                if (other && with[c][x] >= 0 && without[c][x] < 0) n++;
            }
        }
        return n;
    }

    // ---- seen, luck, ages

    public int seen(int year, int course, int column, int hand) {
        if (year < 0 || year > 19 || course < 0 || course > 4 || column < 0 || column > 7) return -2;
        if (hand < 0 || hand > 8) return -2;
        if (seen.size() == 8) return -4;
        seen.add(new int[] {year, course, column, hand});
        return seen.size();
    }

    public int forget() {
        int n = seen.size();
        seen.clear();
        return n;
    }

    private boolean fits(Story story) {
        for (int[] s : seen) {
            int hand = story.behind[s[0]][s[1]][s[2]];
            if (hand != (s[3] == 8 ? -1 : s[3])) return false;
        }
        return true;
    }

    public int never() {
        int bits = 0;
        for (int i = 0; i < frosts.size(); i++) {
            List<int[]> fewer = new ArrayList<>(frosts);
            fewer.remove(i);
            if (fits(story(grid(), hands(), fewer, gappings))) bits += 1 << i;
        }
        return bits;
    }

    public int was(int hand, int what) {
        if (hand < 0 || hand >= hands().length || what < 0 || what > 1) return -2;
        int bits = 0;
        for (int v = 0; v <= 9; v++) {
            if (what == 0 ? v < 1 : v > 3) continue;
            if (fits(withHand(hand, 1 - what, v))) bits += 1 << v;
        }
        return bits;
    }

    public int ask(int hand) {
        if (hand < 0 || hand >= hands().length) return -2;
        List<Story> stories = new ArrayList<>();
        for (int v = 1; v <= 9; v++) {
            Story story = withHand(hand, 1, v);
            if (fits(story)) stories.add(story);
        }
        int best = -1, least = 100;
        for (int year = 0; year < 20; year++) {
            int[] groups = new int[41];
            int most = 0;
            for (Story story : stories) most = Math.max(most, ++groups[story.standing(year)]);
            if (most < least) {
                least = most;
                best = year;
            }
        }
        return best;
    }

    public long luck(int c, int what) {
        if (c < 0 || c > 16 || what < 0 || what > 1) return Long.MIN_VALUE + 2;
        long above = 0, below = 1;
        int n = frosts.size();
        for (int i = 0; i < n; i++) below *= 16;
        for (int set = 0; set < 1 << n; set++) {
            List<int[]> some = new ArrayList<>();
            long ways = 1;
            for (int i = 0; i < n; i++) {
                if ((set >> i & 1) == 1) {
                    some.add(frosts.get(i));
                    ways *= c;
                } else {
                    ways *= 16 - c;
                }
            }
            if (story(grid(), hands(), some, gappings).sheepYears() == 0) above += ways;
        }
        long a = above, b = below;
        while (b != 0) {
            long rest = a % b;
            a = b;
            b = rest;
        }
        return what == 0 ? above / a : below / a;
    }

    public int ages(int seed, int n, int what) {
        if (n < 0 || n > 6 || what < 0 || what > 1) return -2;
        List<int[]> some = new ArrayList<>();
        int[] state = {seed};
        for (int i = 0; i < n; i++) {
            int year = lot(state, 20);
            some.add(new int[] {year, lot(state, 15) + 1});
        }
        Story story = story(grid(), hands(), some, gappings);
        return what == 0 ? story.standing(19) : story.sheepYears();
    }

    private static int lot(int[] state, int m) {
        state[0] = state[0] * 1103515245 + 12345;
        return ((state[0] >> 16) & 0xffff) % m;
    }

    // ---- sheets, with the findings as the machine itself would throw them

    private int found(int n) {
        finding = n;
        return -10 - n;
    }

    public int sheet(int s, int form, int n) {
        if (s < 0 || s > 3 || form < 0 || form > 2 || n > 60) return -2;
        try {
            sheets[s] = form == 0 ? new byte[n] : form == 1 ? new short[n] : new int[n];
            return n;
        } catch (NegativeArraySizeException e) {
            return found(5);
        }
    }

    public int lose(int s) {
        if (s < 0 || s > 3) return -2;
        if (sheets[s] == null) return found(1);
        int n = java.lang.reflect.Array.getLength(sheets[s]);
        sheets[s] = null;
        return n;
    }

    public int put(int s, int form, int i, int v) {
        if (s < 0 || s > 3 || form < 0 || form > 2) return -2;
        if (sheets[s] == null) return found(1);
        try {
            if (form == 0) ((byte[]) sheets[s])[i] = (byte) v;
            else if (form == 1) ((short[]) sheets[s])[i] = (short) v;
            else ((int[]) sheets[s])[i] = v;
            return 1;
        } catch (ClassCastException e) {
            return found(3);
        } catch (ArrayIndexOutOfBoundsException e) {
            return found(2);
        }
    }

    public int get(int s, int form, int i) {
        if (s < 0 || s > 3 || form < 0 || form > 2) return Integer.MIN_VALUE;
        try {
            if (sheets[s] == null) found(1);
            else if (form == 0) return ((byte[]) sheets[s])[i];
            else if (form == 1) return ((short[]) sheets[s])[i];
            else return ((int[]) sheets[s])[i];
        } catch (ClassCastException e) {
            found(3);
        } catch (ArrayIndexOutOfBoundsException e) {
            found(2);
        }
        return Integer.MIN_VALUE;
    }

    public int copy(int s, int i, int t, int j, int n) {
        if (s < 0 || s > 3 || t < 0 || t > 3) return -2;
        try {
            System.arraycopy(sheets[s], i, sheets[t], j, n);
            return 1;
        } catch (NullPointerException e) {
            return found(1);
        } catch (ArrayStoreException e) {
            return found(4);
        } catch (IndexOutOfBoundsException e) {
            return found(2);
        }
    }

    public int write(int year, int s) {
        if (year < 0 || year > 19 || s < 0 || s > 3) return -2;
        if (sheets[s] == null) return found(1);
        int n = Math.min(columns(), java.lang.reflect.Array.getLength(sheets[s]));
        for (int x = 0; x < n; x++) {
            java.lang.reflect.Array.setByte(sheets[s], x, (byte) told().high(year, x));
        }
        return n;
    }

    public int count(int what) {
        int stones = 0;
        for (int[] course : grid()) for (int hand : course) if (hand >= 0) stones++;
        switch (what) {
            case 0: return stones;
            case 1: return hands().length;
            case 2: return texts[0].length();
            case 3: return texts[1].length();
            case 4: return frosts.size();
            case 5: return gappings.size();
            case 6: return told().total();
            case 7: return seen.size();
            case 8: return finding;
            default: return -2;
        }
    }

    public long digest() {
        List<Long> all = new ArrayList<>();
        for (int i = 0; i < 8; i++) all.add((long) count(i));
        for (int t = 0; t < 2; t++) all.add((long) fault(t));
        for (int c = 0; c < 5; c++) {
            for (int x = 0; x < 8; x++) {
                all.add((long) stone(c, x));
                for (int y = 0; y < 20; y += 19) for (int w = 0; w < 2; w++) all.add((long) at(y, c, x, w));
                all.add((long) lift(c, x));
            }
        }
        for (int x = 0; x < columns(); x++) {
            for (int y = 9; y < 20; y += 10) for (int w = 0; w < 2; w++) all.add((long) column(y, x, w));
        }
        for (int y = 0; y < 20; y++) all.add((long) falls(y));
        for (int h = 0; h < hands().length; h++) {
            for (int w = 0; w < 2; w++) all.add((long) hand(h, w));
            all.add((long) mine(h));
            all.add((long) firm(h));
            for (int w = 0; w < 2; w++) all.add((long) relay(h, w));
            for (int w = 0; w < 2; w++) all.add((long) was(h, w));
            all.add((long) ask(h));
        }
        for (int w = 0; w < 2; w++) all.add((long) sheep(w));
        all.add((long) best());
        for (int w = 0; w < 3; w++) all.add((long) mend(5, w));
        all.add((long) never());
        for (int w = 0; w < 2; w++) all.add(luck(5, w));
        for (int w = 0; w < 2; w++) all.add((long) ages(7, 5, w));
        long h = 17;
        for (long v : all) h = h * 31 + v;
        return h;
    }
}
