import java.lang.management.ManagementFactory;

/** The room that a run of 512 calls takes: 7.3 million fields and elements are there for all of it. */
public final class RoomTest {
    private static final Due DUE = new Due();

    public static void main(String[] args) {
        SevenForms x = dear();
        byte[] whole = Form.typed(x);
        long made = taken(() -> {
            for (int i = 0; i < 256; i++) {
                x.write();
                x.read();
            }
        });
        DUE.holds("512 calls of write and read took " + made + " bytes", made < 400_000);
        long faults = taken(() -> {
            for (int i = 0; i < 256; i++) {
                x.poke(whole.length - 1, 1);
                x.seal(1);
                x.read();
            }
        });
        DUE.is("the fault", x.fault(), 2);
        DUE.holds("256 faults took " + faults + " bytes", faults < 400_000);
        long objects = taken(() -> {
            for (int i = 0; i < 100; i++) {
                new SevenForms();
            }
        });
        DUE.holds("100 objects took " + objects + " bytes", objects < 3_000_000);
        DUE.end();
    }

    private static SevenForms dear() {
        SevenForms x = new SevenForms();
        for (int e = 0; e < 24; e++) {
            x.entry(0);
            x.name(e, 'a');
            x.block(e, e % 6);
            for (int k = 0; k < 15; k++) {
                x.put(e, k * 0x0123456789L, 8);
            }
        }
        x.write();
        return x;
    }

    private static long taken(Runnable calls) {
        com.sun.management.ThreadMXBean room = (com.sun.management.ThreadMXBean) ManagementFactory.getThreadMXBean();
        long me = Thread.currentThread().getId();
        long before = room.getThreadAllocatedBytes(me);
        calls.run();
        return room.getThreadAllocatedBytes(me) - before;
    }
}
