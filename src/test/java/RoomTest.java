import java.lang.management.ManagementFactory;

/** All calls of a run live in one room: calls make no objects, and a new object stays small. */
public final class RoomTest {
    private static final int OBJECTS = 1000;
    private static final long MOST_BYTES_EACH = 16_000;
    private static long answers;

    public static void main(String[] args) {
        com.sun.management.ThreadMXBean room = (com.sun.management.ThreadMXBean) ManagementFactory.getThreadMXBean();
        WallHands wall = new WallHands();
        callAll(wall);
        long before = room.getCurrentThreadAllocatedBytes();
        for (int i = 0; i < 20; i++) callAll(wall);
        long made = room.getCurrentThreadAllocatedBytes() - before;
        WallHands[] many = new WallHands[OBJECTS];
        before = room.getCurrentThreadAllocatedBytes();
        for (int i = 0; i < OBJECTS; i++) many[i] = new WallHands();
        long each = (room.getCurrentThreadAllocatedBytes() - before) / OBJECTS;
        // the looking itself may make a little
        boolean well = made < 2000 && each < MOST_BYTES_EACH;
        if (!well) {
            System.out.println("calls made " + made + " bytes, an object takes " + each + " (" + answers + ")");
            System.exit(1);
        }
    }

    private static void type(WallHands x, int text, String bytes) {
        x.wipe(text);
        for (int i = 0; i < bytes.length(); i++) x.type(text, bytes.charAt(i));
    }

    private static void callAll(WallHands x) {
        type(x, 0, "abcdefgh;aabbccdd;hgfedcba;a.c.e.g.;bbbb...b");
        type(x, 1, "p4;t8;l5;s6;p9;l2;t7;s9");
        answers += x.undo(0) + x.type(0, 'h') + x.fault(0) + x.stone(0, 0) + x.hand(0, 0) + x.jump(3);
        for (int i = 0; i < 7; i++) answers += x.frost(3 * i, 4 + i) + x.gapping(3 * i, i, i) + x.seen(i, 4, i, 8);
        answers += x.digest() + x.at(9, 0, 0, 1) + x.never() + x.ask(0) + x.luck(5, 0) + x.ages(1, 6, 1);
        answers += x.sheet(0, 0, 60) + x.sheet(1, 0, 60) + x.put(0, 0, 1, 4) + x.get(0, 0, 1) + x.copy(0, 0, 1, 0, 60);
        answers += x.write(19, 1) + x.read(0) + x.lose(0) + x.lose(0) + x.sheet(0, 0, -1) + x.count(6);
        answers += x.back(0) + x.back(1) + x.forget() + x.best();
    }
}
