/** Promises 19 to 25, 33 and 36: a night now, beds by which all are watched, the best ring, the best bed, odds. */
public final class NightTest {
    private static final Check CHECK = new Check();
    private static final int NONE = DreamGuard.NONE;
    private static final int HIDDEN = DreamGuard.HIDDEN;

    private NightTest() { }

    public static void main(String[] args) {
        withoutFort();
        wokenMen();
        openGate();
        wokenWatcherWatches();
        dreamsAreHeld();
        apart();
        odds();
        staggeredBeds();
        staggeredRings();
        rings();
        bestBeds();
        CHECK.finish();
    }

    private static void withoutFort() {
        DreamGuard x = new DreamGuard();
        CHECK.same("sleeps", x.sleeps(0, 0), NONE);
        CHECK.same("dream", x.dream(0, 0), NONE);
        CHECK.same("slept", x.slept(0, 0), HIDDEN);
        CHECK.same("night", x.night(0), NONE);
        CHECK.same("awake", x.awake(0), NONE);
        CHECK.same("odds", x.odds(0), NONE);
        CHECK.same("stagger", x.stagger(0), NONE);
        CHECK.same("ring", x.ring(0), NONE);
        CHECK.same("best", x.best(0, 0), NONE);
    }

    private static void sleepIs(DreamGuard x, int man, int... due) {
        for (int hour = 0; hour < due.length; hour++) {
            CHECK.same("sleeps(" + man + ", " + hour + ")", x.sleeps(man, hour), due[hour]);
        }
        CHECK.same("sleeps beyond the night", x.sleeps(man, due.length), NONE);
        CHECK.same("dream beyond the night", x.dream(man, due.length), NONE);
    }

    private static void dreamsAre(DreamGuard x, int man, int... due) {
        for (int hour = 0; hour < due.length; hour++) {
            CHECK.same("dream(" + man + ", " + hour + ")", x.dream(man, hour), due[hour]);
        }
    }

    private static void nightIs(DreamGuard x, int... due) {
        for (int what = 0; what < 5; what++) {
            CHECK.same("night(" + what + ")", x.night(what), due[what]);
        }
        CHECK.same("night(5)", x.night(5), NONE);
        CHECK.same("night(-1)", x.night(-1), NONE);
    }

    private static void wokenMen() {
        DreamGuard x = Check.fort("sh4n5c9;mn2d4e2b0;mn2d4e9b2;mn1d9e0b0");
        sleepIs(x, 0, 1, 2, 0, 0);
        sleepIs(x, 1, 0, 0, 2, 2);
        sleepIs(x, 2, 2, 0, 0, 0);
        dreamsAre(x, 0, 4, 5, NONE, NONE);
        dreamsAre(x, 1, NONE, NONE, 3, 4);
        dreamsAre(x, 2, 5, NONE, NONE, NONE);
        nightIs(x, 1, 0, 2, 5, 0);
        int[] slept = {2, 2, 1};
        int[] woken = {1, NONE, 0};
        int[] awake = {2, 6, 5, 5};
        for (int man = 0; man < 3; man++) {
            CHECK.same("slept(" + man + ", 0)", x.slept(man, 0), slept[man]);
            CHECK.same("slept(" + man + ", 1)", x.slept(man, 1), woken[man]);
        }
        for (int hour = 0; hour < 4; hour++) {
            CHECK.same("awake(" + hour + ")", x.awake(hour), awake[hour]);
        }
        CHECK.same("awake(4)", x.awake(4), NONE);
        CHECK.same("awake(-1)", x.awake(-1), NONE);
        CHECK.same("slept(3, 0)", x.slept(3, 0), HIDDEN);
        CHECK.same("slept(-1, 1)", x.slept(-1, 1), HIDDEN);
        CHECK.same("slept(0, 2)", x.slept(0, 2), HIDDEN);
        CHECK.same("slept(0, -1)", x.slept(0, -1), HIDDEN);
        CHECK.same("sleeps(3, 0)", x.sleeps(3, 0), NONE);
        CHECK.same("sleeps(0, -1)", x.sleeps(0, -1), NONE);
        CHECK.same("dream(-1, 0)", x.dream(-1, 0), NONE);
        CHECK.same("dream(0, -1)", x.dream(0, -1), NONE);
        x.nights(1);
        CHECK.same("COINS by three calm hours", x.rule(2), 12);
    }

    private static void openGate() {
        DreamGuard x = Check.fort("sn4c0;mn3d4e1b0;mn3d2e0b0;mn4d5b6");
        sleepIs(x, 0, 2, 2, 2, 0, 0, 0, 0, 0);
        sleepIs(x, 1, 1, 1, 1, 0, 0, 0, 0, 0);
        sleepIs(x, 2, 0, 0, 0, 0, 0, 0, 2, 0);
        dreamsAre(x, 0, 2, 3, 4);
        dreamsAre(x, 1, 2, 3, 4);
        dreamsAre(x, 2, NONE, NONE, NONE, NONE, NONE, NONE, 5, NONE);
        nightIs(x, 3, 1, 3, 5, 0);
        CHECK.same("slept(0, 1)", x.slept(0, 1), 2);
        CHECK.same("slept(1, 1)", x.slept(1, 1), NONE);
        CHECK.same("slept(2, 0)", x.slept(2, 0), 1);
        CHECK.same("slept(2, 1)", x.slept(2, 1), 6);
        x.swap(0, 1);
        CHECK.same("no coin for it", x.man(0, 6), 0);
        DreamGuard y = Check.fort("mn0b1;mn2b3");
        CHECK.same("FEWEST, the first", y.night(4), 3);
        CHECK.same("AWAKE", y.awake(4), 1);
        CHECK.same("AWAKE", y.awake(5), 3);
    }

    /** Who was woken watches from the next hour on. */
    private static void wokenWatcherWatches() {
        DreamGuard x = Check.fort("sh4n6;mn4d9e0;mn4d1e6;mn0e6");
        sleepIs(x, 0, 2, 0, 0, 0);
        sleepIs(x, 1, 1, 2, 2, 2);
        dreamsAre(x, 0, 6, NONE, NONE, NONE);
        dreamsAre(x, 1, 1, 2, 3, 4);
        nightIs(x, 1, 0, 1, 1, 0);
    }

    private static void dreamsAreHeld() {
        DreamGuard x = Check.fort("sh10n20;mn10d9e0;mn10d0e9;mn0e9");
        dreamsAre(x, 0, 5, 6, 7, 8, 9, 10, 11, 12, 13, 14);
        x.swap(0, 2);
        dreamsAre(x, 0, 9, 10, 11, 12, 13, 14, 15, 16, 17, 18);
        CHECK.same("watched by 1, who sleeps", x.sleeps(0, 0), 1);
        DreamGuard y = Check.fort("sh10n20;mn10d1;me9n0");
        dreamsAre(y, 0, 0, 0, 0, 0, 1, 2, 3, 4, 5, 6);
        DreamGuard z = Check.fort("sh10n20;mn10d9;mn10d9");
        dreamsAre(z, 0, 9, 10, 11, 12, 13, 14, 15, 16, 17, 18);
        CHECK.same("all unwatched", z.night(0), 20);
    }

    /** Asking changes nothing. */
    private static void apart() {
        DreamGuard x = Check.fort("sn4;mn3d4e1b0;mn3d2e0b0;mn4d5b6");
        x.night(1);
        x.ring(0);
        x.stagger(1);
        x.best(2, 0);
        x.game(0, 1, 3, 3, 0);
        x.rests(0, 1, NONE);
        x.who(3, NONE);
        x.most(3);
        CHECK.same("NIGHT", x.count(4), 0);
        CHECK.same("ACTS", x.count(11), 0);
        CHECK.same("DREAMT", x.count(6), 0);
        CHECK.same("GATE", x.most(4), 0);
        CHECK.same("LOG", x.count(10), 0);
        int[][] due = {{4, 1, 0, 0}, {2, 0, 0, 1}, {5, 5, 6, 2}};
        int[] what = {1, 2, 3, 6};
        for (int man = 0; man < 3; man++) {
            for (int k = 0; k < 4; k++) {
                CHECK.same("man(" + man + ", " + what[k] + ")", x.man(man, what[k]), due[man][k]);
            }
        }
    }

    private static void odds() {
        DreamGuard x = Check.fort("sn3;mn3;mn3");
        CHECK.same("GATE", x.night(1), 6);
        CHECK.same("odds(0)", x.odds(0), 1000000000);
        CHECK.same("odds(50)", x.odds(50), 15625000);
        CHECK.same("odds(33)", x.odds(33), 90458383);
        CHECK.same("odds(99)", x.odds(99), 1);
        CHECK.same("odds(100)", x.odds(100), 0);
        CHECK.same("odds(101)", x.odds(101), NONE);
        CHECK.same("odds(-1)", x.odds(-1), NONE);
        DreamGuard y = Check.fort("sn3;mn3;mn3b3d0");
        CHECK.same("no gate", y.odds(100), 1000000000);
    }

    private static void stagger(String fort, int changes, int row) {
        DreamGuard x = Check.fort(fort);
        CHECK.same("stagger(0) of " + fort, x.stagger(0), changes);
        CHECK.same("stagger(1) of " + fort, x.stagger(1), row);
        CHECK.same("stagger(2)", x.stagger(2), NONE);
        CHECK.same("stagger(-1)", x.stagger(-1), NONE);
    }

    private static void staggeredBeds() {
        stagger("sh4;mn2;mn2", 1, 2);
        stagger("sh4;mn2b2;mn2", 0, 20);
        stagger("sh6;mn2b1;mn2b1", 1, 13);
        stagger("sh4;mn1;mn1;mn1", 2, 12);
        stagger("sh4;mn3;mn3", NONE, NONE);
        stagger("sh4;mn4;mn0b3", 0, 3);
        stagger("sh4;mn2b3;mn0", 1, 0);
        stagger("sh10;mn5b5;mn5b5", 1, 5);
        stagger("sh10;mn10b9;mn0b9", 1, 9);
        stagger("sh10;mn5;mn5;mn5", NONE, NONE);
        stagger("sh9;mn3;mn3;mn3", 2, 36);
        stagger("sh9;mn3b6;mn3b6;mn3b6", 2, 36);
        stagger("sh8;mn3;mn3;mn3", NONE, NONE);
        stagger("sh8;mn4;mn4;mn4;mn4;mn4;mn4", 3, 40404);
        stagger("sh10;mn0b9;mn0b9;mn0b9;mn0b9;mn0b9;mn0b9", 0, 999999);
        stagger("sh10;mn1b9;mn0b9;mn1b9;mn0b9;mn1b9;mn0b9", 0, 999999);
        stagger("mn7;mn1", 1, 7);
        stagger("mn8;mn1", NONE, NONE);
    }

    private static void staggeredRings() {
        DreamGuard x = Check.fort("sh4;mn4;mn0;mn4;mn0");
        CHECK.same("stagger(0)", x.stagger(0), 0);
        x.swap(1, 2);
        CHECK.same("stagger(0)", x.stagger(0), NONE);
        DreamGuard turned = Check.fort("sh4;mn0;mn4;mn0;mn4");
        turned.swap(0, 1);
        CHECK.same("1 first, then 0, 2, 3", turned.stagger(0), NONE);
        turned.swap(0, 3);
        CHECK.same("1 first, then 3, 2, 0", turned.stagger(0), NONE);
        turned.swap(3, 2);
        CHECK.same("1 first, then 2, 3, 0", turned.stagger(0), 0);
        DreamGuard y = Check.fort("sh4n1;mn2d9;mn2d9b2");
        CHECK.same("all are woken", y.night(3), 3);
        CHECK.same("stagger", y.stagger(1), 2);
        y.bed(0, 2);
        CHECK.same("stagger", y.stagger(0), 1);
        CHECK.same("stagger", y.stagger(1), 2);
    }

    private static void rings() {
        DreamGuard x = Check.fort("sh4n5;mn1d5e0;mn0e9;mn0e0");
        CHECK.same("NIGHTMARES", x.night(2), 1);
        CHECK.same("ring(0)", x.ring(0), 21);
        CHECK.same("ring(1)", x.ring(1), 0);
        CHECK.same("ring(2)", x.ring(2), NONE);
        CHECK.same("ring(-1)", x.ring(-1), NONE);
        x.swap(0, 1);
        CHECK.same("ring(0), the first as now", x.ring(0), 102);
        x.swap(1, 2);
        CHECK.same("ring(0), the first as now", x.ring(0), 210);
        CHECK.same("ring(1)", x.ring(1), 0);
        DreamGuard y = Check.fort("sh4n5;mn1d9e0;mn0e2;mn0e0");
        CHECK.same("ring(0), of several the least", y.ring(0), 12);
        CHECK.same("ring(1)", y.ring(1), 1);
        DreamGuard z = Check.fort("sh4n5;mn1d5e0;mn1d5e0b1");
        CHECK.same("ring(0) of two", z.ring(0), 1);
        CHECK.same("ring(1) of two", z.ring(1), 2);
        DreamGuard six = Check.fort("sn3;me0n1d4;me0n0;me0n0;me0n0;me2n0;me0n0");
        CHECK.same("ring(0) of six", six.ring(0), 12345);
        CHECK.same("ring(1) of six", six.ring(1), 1);
        six.train(4);
        six.train(4);
        CHECK.same("ring(0) of six", six.ring(0), 12354);
        CHECK.same("ring(1) of six", six.ring(1), 0);
        DreamGuard greatest = Check.fort("sn9;mn1e5;mn1e4b1;mn1e3b2;mn1e2b3;mn1e1b4;mn1e0b5");
        Check.addLaw(greatest, "y:h=0&e=4|h=5&e=5|h=4&e=0|h=3&e=1|h=2&e=2|h=1&e=3?0;y:9");
        CHECK.same("ring(0), the greatest row", greatest.ring(0), 54321);
        CHECK.same("ring(1)", greatest.ring(1), 0);
        DreamGuard last = Check.fort("sn3;mn1d5e0;mn1d5e6b1;mn1d5e6b2;mn1d5e6b3");
        CHECK.same("ring(1) of four", last.ring(1), 1);
    }

    private static void bestBeds() {
        DreamGuard x = Check.fort("sh4n20;mn2d3b0e0;mn2d5e8b0");
        CHECK.same("best(0, 0)", x.best(0, 0), 2);
        CHECK.same("best(0, 1)", x.best(0, 1), 0);
        CHECK.same("best(1, 0)", x.best(1, 0), 3);
        CHECK.same("best(1, 1)", x.best(1, 1), 5);
        CHECK.same("best(0, 2)", x.best(0, 2), NONE);
        CHECK.same("best(0, -1)", x.best(0, -1), NONE);
        CHECK.same("best(2, 0)", x.best(2, 0), NONE);
        CHECK.same("best(-1, 0)", x.best(-1, 0), NONE);
        DreamGuard y = Check.fort("mn0;m");
        CHECK.same("best, of several the least", y.best(0, 0), 0);
        CHECK.same("best, nothing dreamt", y.best(0, 1), 0);
    }
}
