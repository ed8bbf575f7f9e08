import java.lang.management.ManagementFactory;

/** The room that a run takes: what an object makes it makes in its constructor, calls make nothing. */
public final class RoomTest {
    /** With 23 calls a round an object stays below its 512. */
    private static final int ROUNDS = 20;
    private static final long BYTES_OF_OBJECT = 60_000;

    private RoomTest() { }

    private static long allocated() {
        var bean = (com.sun.management.ThreadMXBean) ManagementFactory.getThreadMXBean();
        return bean.getThreadAllocatedBytes(Thread.currentThread().getId());
    }

    public static void main(String[] args) {
        Check check = new Check();
        DreamGuard warm = Check.fort("sh10n6;mn9;mn8b1;mn1b3;mn2b5;mn4b6;mn3");
        useAll(warm);
        long before = allocated();
        DreamGuard x = new DreamGuard();
        long made = allocated() - before;
        check.holds("an object takes " + made + " bytes", made < BYTES_OF_OBJECT);
        Check.addFort(x, "sh10n6;mn9;mn8b1;mn1b3;mn2b5;mn4b6;mn3");
        Check.addLaw(x, "y:!(w=1&[d+1]*2>7|n>999)?d+i;y:e/2");
        before = allocated();
        for (int k = 0; k < ROUNDS; k++) {
            useAll(x);
        }
        made = allocated() - before;
        check.holds(ROUNDS + " rounds of calls take " + made + " bytes", made < 4_000);
        check.finish();
    }

    private static void useAll(DreamGuard x) {
        x.nights(10);
        x.years(10, 5);
        x.undo();
        x.image();
        x.back();
        x.sleeps(0, 0);
        x.dream(0, 0);
        x.slept(0, 0);
        x.night(4);
        x.stagger(1);
        x.ring(0);
        x.best(0, 0);
        x.who(3, 0);
        x.hourToAsk(3);
        x.liars();
        x.rests(0, 1, 0);
        x.odds(3);
        x.most(3);
        x.fault(0);
        x.fault(1);
        x.feed(1835940155, 1828716544, 0, 0, 0);
        x.fault(0);
        x.end(0);
    }
}
