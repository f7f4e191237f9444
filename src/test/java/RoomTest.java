import java.lang.management.ManagementFactory;

/** No call makes objects that stay or pass: all rows are made with the object. */
public final class RoomTest {
    /** With those that make the object ready, and those that come by twos, some 500 calls. */
    private static final int CALLS = 384;

    public static void main(String[] args) {
        com.sun.management.ThreadMXBean bean = (com.sun.management.ThreadMXBean) ManagementFactory.getThreadMXBean();
        // the first object brings the classes with it
        due(new KeptWell().count(0) == 2);
        long before = bean.getCurrentThreadAllocatedBytes();
        KeptWell x = new KeptWell();
        long object = bean.getCurrentThreadAllocatedBytes() - before;
        for (int way = 0; way < 8; way++) {
            // does 0, any to 1; does 1, any to 0
            x.feed(0x646f6573, 0x20302c61, 0x6e792074, 0x6f20313b, 0x646f6573);
            x.feed(0x20312c61, 0x6e792074, 0x6f203020, 0x20202020, 0x20202020);
            x.way();
            x.field(way, 100 + way);
        }
        for (int i = 0; i < 6; i++) {
            x.villager(30 + i, 9);
        }
        x.bring(0, 1, 7, -3);
        x.bring(1, 1, -9, 8);
        long sum = 0;
        before = bean.getCurrentThreadAllocatedBytes();
        for (int i = 0; i < CALLS; i++) {
            sum += dearest(x, i);
        }
        long calls = bean.getCurrentThreadAllocatedBytes() - before;
        System.out.println("an object takes " + object + " bytes, " + CALLS + " calls " + calls + " (" + sum + ")");
        // the machine's own bookkeeping may take a little
        due(object < 40000 && calls < 20000);
    }

    private static void due(boolean good) {
        if (!good) {
            System.out.println("that is too much");
            System.exit(1);
        }
    }

    private static long dearest(KeptWell x, int i) {
        switch (i % 16) {
            case 0:
                return x.all(i % 8, i % 4);
            case 1:
                return x.together();
            case 2:
                return x.edge(i % 8, 1, 12);
            case 3:
                return x.grow(50);
            case 4:
                return x.village(2);
            case 5:
                return x.lots(0, false);
            case 6:
                return x.mild(0, 0, 1, 1);
            case 7:
                return x.count(11);
            case 8:
                return x.answer(0, i % 8, 1, false);
            case 9:
                return x.doubt(0, 1, 0, true, true);
            case 10:
                return x.drawn(0, 1, 100, i, 0);
            case 11:
                return x.worth(0, 1, 3, 1, 1, false);
            case 12:
                return x.stays(2) ? 1 : 0;
            case 13:
                x.image();
                return x.back() ? 1 : 0;
            case 14:
                return x.feed(0, 0, 0, 0, 0) + x.row();
            default:
                return x.begin(0, 1) + x.judge(0, 1);
        }
    }
}
