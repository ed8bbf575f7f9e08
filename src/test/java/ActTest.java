import java.util.NoSuchElementException;

/** Promises 6, 7, 9 to 18 and 39 to 41: what is as now, acts, refusals, undoing, the log, images, counts. */
public final class ActTest {
    private static final Check CHECK = new Check();
    private static final int NONE = DreamGuard.NONE;

    private ActTest() { }

    public static void main(String[] args) {
        withoutFort();
        asNow();
        beds();
        training();
        dulling();
        swapping();
        nightsGoBy();
        bounds();
        lastNight();
        restBeforeLastNight();
        snowing();
        years();
        undoing();
        undoneLog();
        logs();
        images();
        counts();
        CHECK.finish();
    }

    private static void withoutFort() {
        DreamGuard x = new DreamGuard();
        CHECK.same("bed", x.bed(0, 0), NONE);
        CHECK.same("train", x.train(0), NONE);
        CHECK.same("dull", x.dull(0), NONE);
        CHECK.same("swap", x.swap(0, 0), NONE);
        CHECK.same("nights", x.nights(0), NONE);
        CHECK.same("years", x.years(1, 0), NONE);
        CHECK.same("undo", x.undo(), NONE);
        CHECK.same("image", x.image(), NONE);
        CHECK.same("back", x.back(), NONE);
        CHECK.same("log", x.log(0, 0), NONE);
        statusIs(x, 5, 0, 0, 0, 0);
        noSuchMan(x, 0, 0);
        CHECK.same("status(-1)", x.status(-1), NONE);
        CHECK.same("status(5)", x.status(5), NONE);
    }

    private static void statusIs(DreamGuard x, int... due) {
        for (int what = 0; what < 5; what++) {
            CHECK.same("status(" + what + ")", x.status(what), due[what]);
        }
    }

    private static void noSuchMan(DreamGuard x, int man, int what) {
        boolean thrown = false;
        try {
            x.man(man, what);
        } catch (NoSuchElementException e) {
            thrown = true;
        }
        CHECK.holds("man(" + man + ", " + what + ") throws", thrown);
    }

    private static void menAre(DreamGuard x, int what, int... due) {
        for (int man = 0; man < due.length; man++) {
            CHECK.same("man(" + man + ", " + what + ")", x.man(man, what), due[man]);
        }
    }

    private static void asNow() {
        DreamGuard x = Check.fort("sh10n1c3;mn10d9e8b7;mn1d2e3b4");
        CHECK.same("rule(0)", x.rule(0), 10);
        CHECK.same("rule(1)", x.rule(1), 1);
        CHECK.same("rule(2)", x.rule(2), 3);
        CHECK.same("rule(3)", x.rule(3), NONE);
        CHECK.same("rule(-1)", x.rule(-1), NONE);
        int[][] due = {{10, 9, 8, 7, 0, 0, 0}, {1, 2, 3, 4, 0, 0, 1}};
        for (int man = 0; man < 2; man++) {
            for (int what = 0; what < 7; what++) {
                CHECK.same("man", x.man(man, what), due[man][what]);
            }
        }
        noSuchMan(x, -1, 0);
        noSuchMan(x, 2, 0);
        noSuchMan(x, 0, -1);
        noSuchMan(x, 1, 7);
        noSuchMan(x, Integer.MIN_VALUE, Integer.MAX_VALUE);
    }

    private static void beds() {
        DreamGuard x = Check.fort("sh6;mb2;m");
        CHECK.same("bed(0, 5)", x.bed(0, 5), 2);
        CHECK.same("bed(0, 0)", x.bed(0, 0), 5);
        CHECK.same("BED", x.man(0, 3), 0);
        CHECK.same("bed(2, 9)", x.bed(2, 9), NONE);
        CHECK.same("bed(-1, 0)", x.bed(-1, 0), NONE);
        CHECK.same("bed(0, 6)", x.bed(0, 6), NONE);
        CHECK.same("bed(0, -1)", x.bed(0, -1), NONE);
        CHECK.same("bed(0, 0) again", x.bed(0, 0), NONE);
        statusIs(x, 2, 2, 1, 0, 0);
        CHECK.same("ACTS", x.count(11), 2);
        CHECK.same("COINS", x.rule(2), 20);
        CHECK.same("BED of the other", x.man(1, 3), 0);
    }

    private static void training() {
        DreamGuard x = Check.fort("sc5;me7;me9");
        CHECK.same("train(0)", x.train(0), 8);
        CHECK.same("COINS", x.rule(2), 3);
        CHECK.same("train(0)", x.train(0), 9);
        CHECK.same("COINS", x.rule(2), 1);
        CHECK.same("train(0): nine, ahead of too few", x.train(0), NONE);
        CHECK.same("train(1)", x.train(1), NONE);
        CHECK.same("train(2)", x.train(2), NONE);
        CHECK.same("train(-1)", x.train(-1), NONE);
        statusIs(x, 2, 0, 2, 0, 0);
        DreamGuard y = Check.fort("sc2;me0;m");
        CHECK.same("train with 2", y.train(0), 1);
        CHECK.same("train with 0", y.train(0), NONE);
        DreamGuard z = Check.fort("sc1;me0;m");
        CHECK.same("train with 1", z.train(0), NONE);
        statusIs(z, 0, 0, 0, 1, 0);
        menAre(z, 2, 0, 5);
        CHECK.same("ACTS", z.count(11), 0);
    }

    private static void dulling() {
        DreamGuard x = Check.fort("sc7;md2;md0");
        CHECK.same("dull(0)", x.dull(0), 1);
        CHECK.same("COINS", x.rule(2), 4);
        CHECK.same("dull(0)", x.dull(0), 0);
        CHECK.same("COINS", x.rule(2), 1);
        CHECK.same("dull(0): none, ahead of too few", x.dull(0), NONE);
        CHECK.same("dull(1)", x.dull(1), NONE);
        CHECK.same("dull(2)", x.dull(2), NONE);
        CHECK.same("dull(-1)", x.dull(-1), NONE);
        statusIs(x, 2, 0, 2, 0, 0);
        DreamGuard y = Check.fort("sc3;m;m");
        CHECK.same("dull with 3", y.dull(0), 2);
        DreamGuard z = Check.fort("sc2;m;m");
        CHECK.same("dull with 2", z.dull(0), NONE);
        statusIs(z, 0, 0, 0, 1, 0);
        menAre(z, 1, 3, 3);
        CHECK.same("ACTS", z.count(11), 0);
    }

    private static void swapping() {
        DreamGuard x = Check.fort("sc2;m;m;m");
        CHECK.same("swap(0, 2)", x.swap(0, 2), 2);
        menAre(x, 6, 2, 1, 0);
        CHECK.same("COINS", x.rule(2), 1);
        CHECK.same("swap(1, 0)", x.swap(1, 0), 2);
        menAre(x, 6, 1, 2, 0);
        CHECK.same("swap(1, 1): alike, ahead of too few", x.swap(1, 1), NONE);
        CHECK.same("swap(0, 1)", x.swap(0, 1), NONE);
        CHECK.same("swap(3, 3): no such, ahead of alike", x.swap(3, 3), NONE);
        CHECK.same("swap(0, 3)", x.swap(0, 3), NONE);
        CHECK.same("swap(-1, 0)", x.swap(-1, 0), NONE);
        statusIs(x, 3, 1, 0, 1, 0);
        menAre(x, 6, 1, 2, 0);
        CHECK.same("ACTS", x.count(11), 2);
    }

    /** Worked out by hand: men 0 and 2 are woken, man 1 sleeps unwatched and opens the gate. */
    private static void nightsGoBy() {
        DreamGuard x = Check.fort("sn4c0;mn3d4e1b0;mn3d2e0b0;mn4d5b6");
        CHECK.same("nights(1)", x.nights(1), 1);
        menAre(x, 5, 9, 9, 5);
        menAre(x, 4, 0, 0, 3);
        CHECK.same("COINS", x.rule(2), 1);
        CHECK.same("GATE", x.most(4), 1);
        CHECK.same("unwatched", x.log(0, 0), 3);
        CHECK.same("WOKEN", x.log(0, 1), 5);
        CHECK.same("GATE", x.log(0, 2), 1);
        CHECK.same("log(0, 3)", x.log(0, 3), NONE);
        CHECK.same("log(0, -1)", x.log(0, -1), NONE);
        CHECK.same("log(1, 0)", x.log(1, 0), NONE);
        CHECK.same("log(-1, 0)", x.log(-1, 0), NONE);
        CHECK.same("nights(2)", x.nights(2), 3);
        menAre(x, 5, 27, 27, 15);
        menAre(x, 4, 0, 0, 9);
        CHECK.same("GATE", x.most(4), 3);
        CHECK.same("ACTS", x.count(11), 3);
        CHECK.same("nights(0)", x.nights(0), NONE);
        CHECK.same("nights(61)", x.nights(61), NONE);
        CHECK.same("nights(-5)", x.nights(-5), NONE);
        statusIs(x, 0, 3, 0, 0, 0);
        CHECK.same("NIGHT", x.count(4), 3);
        CHECK.same("COINS", x.rule(2), 3);
    }

    private static void bounds() {
        DreamGuard x = Check.fort("sh10c99;mn5d0;mn5d0b5");
        x.nights(60);
        CHECK.same("COINS", x.rule(2), 699);
        x.nights(29);
        CHECK.same("COINS", x.rule(2), 989);
        x.nights(1);
        CHECK.same("COINS", x.rule(2), 999);
        x.nights(1);
        CHECK.same("COINS, at most", x.rule(2), 999);
        DreamGuard y = Check.fort("sh10n20;mn10;mn10b9");
        Check.addLaw(y, "y:w=1?19;y:20");
        y.nights(11);
        menAre(y, 4, 0, 99);
        menAre(y, 5, 11 * 191, 11 * 20);
        y.nights(1);
        menAre(y, 4, 0, 99);
        y.bed(1, 0);
        y.nights(1);
        menAre(y, 4, 0, 98);
        y.nights(37);
        menAre(y, 5, 12 * 191 + 38 * 200, 12 * 20 + 38 * 200);
        y.nights(1);
        menAre(y, 5, 9999, 12 * 20 + 39 * 200);
        y.nights(60);
        menAre(y, 5, 9999, 9999);
        menAre(y, 4, 0, 0);
    }

    private static void lastNight() {
        DreamGuard x = Check.fort("mn1b7;mn2b7");
        for (int k = 1; k <= 16; k++) {
            CHECK.same("nights(60)", x.nights(60), 60 * k);
        }
        CHECK.same("nights(40): beyond 999", x.nights(40), NONE);
        CHECK.same("years(40, 1): beyond 999", x.years(40, 1), NONE);
        statusIs(x, 0, 0, 0, 0, 1);
        CHECK.same("NIGHT", x.count(4), 960);
        CHECK.same("nights(38)", x.nights(38), 998);
        x.bed(1, 3);
        CHECK.same("years(2, 1)", x.years(2, 1), NONE);
        CHECK.same("years(1, 1)", x.years(1, 1), 999);
        CHECK.same("years(1, 1) at 999", x.years(1, 1), NONE);
        CHECK.same("nights(1) at 999", x.nights(1), NONE);
        CHECK.same("nights(61) at 999", x.nights(61), NONE);
        statusIs(x, 0, 1, 0, 0, 2);
        Check.addLaw(x, "y:n/50");
        x.bed(1, 1);
        CHECK.same("a night now, at 999", x.dream(1, 1), 19);
        CHECK.same("RESTED, when none goes by", x.most(3), NONE);
        CHECK.same("NIGHT", x.count(4), 999);
    }

    private static void restBeforeLastNight() {
        DreamGuard x = Check.fort("mn2b5;mn2b2");
        for (int k = 0; k < 16; k++) {
            x.nights(60);
        }
        x.nights(36);
        x.bed(0, 7);
        x.nights(2);
        x.bed(0, 5);
        CHECK.same("RESTED in two, but one night is left", x.most(3), NONE);
        CHECK.same("nights(1), the last", x.nights(1), 999);
        CHECK.same("TIRED", x.count(5), 1);
        CHECK.same("RESTED in one, but none is left", x.most(3), NONE);
        x.undo();
        x.undo();
        x.undo();
        CHECK.same("TIRED", x.count(5), 1);
        x.bed(0, 5);
        CHECK.same("RESTED in one, and two are left", x.most(3), 1);
    }

    private static void snowing() {
        DreamGuard x = new DreamGuard();
        CHECK.fails("snow(0) at first", x.snow(0));
        CHECK.holds("snow(9)", x.snow(9));
        CHECK.fails("snow(9) again", x.snow(9));
        CHECK.fails("snow(10)", x.snow(10));
        CHECK.fails("snow(-1)", x.snow(-1));
        CHECK.same("SNOW", x.count(7), 9);
        CHECK.holds("snow(0)", x.snow(0));
        CHECK.same("SNOW", x.count(7), 0);
        statusIs(x, 0, 0, 0, 0, 0);
    }

    /** The draws were worked out apart from the program. */
    private static void years() {
        DreamGuard x = Check.fort("sh7c0;m;m;m;m;m");
        x.snow(6);
        CHECK.same("years(1, 42)", x.years(1, 42), 1);
        menAre(x, 3, 0, 0, 0, 0, 2);
        menAre(x, 6, 0, 1, 2, 3, 4);
        x.undo();
        menAre(x, 3, 0, 0, 0, 0, 0);
        CHECK.same("years(4, 42)", x.years(4, 42), 4);
        menAre(x, 3, 6, 0, 0, 0, 6);
        menAre(x, 6, 0, 1, 4, 3, 2);
        CHECK.same("ACTS", x.count(11), 4);
        CHECK.same("undo", x.undo(), 3);
        menAre(x, 3, 0, 0, 0, 0, 6);
        menAre(x, 6, 0, 1, 2, 3, 4);
        CHECK.same("NIGHT", x.count(4), 3);
        Check.addFort(x, "sh7c0;m;m;m;m;m");
        CHECK.same("years(3, 7)", x.years(3, 7), 3);
        menAre(x, 3, 4, 0, 0, 4, 0);
        menAre(x, 6, 1, 4, 2, 0, 3);
        Check.addFort(x, "sh7;m;m;m;m;m");
        CHECK.same("years(4, least)", x.years(4, Long.MIN_VALUE), 4);
        menAre(x, 3, 0, 6, 5, 3, 0);
        menAre(x, 6, 4, 1, 2, 3, 0);
        Check.addFort(x, "sh7;m;m;m;m;m");
        CHECK.same("years(4, -1)", x.years(4, -1), 4);
        menAre(x, 3, 1, 0, 1, 3, 0);
        menAre(x, 6, 0, 1, 3, 2, 4);
        CHECK.same("years(0, 1)", x.years(0, 1), NONE);
        CHECK.same("years(61, 1)", x.years(61, 1), NONE);
        statusIs(x, 0, 0, 0, 0, 0);
        CHECK.same("years(60, 1)", x.years(60, 1), 64);
        CHECK.same("ACTS", x.count(11), 40);
    }

    private static void undoing() {
        DreamGuard x = Check.fort("sn3;mn2e8d4;mb1;m");
        CHECK.same("undo of none", x.undo(), NONE);
        x.bed(1, 4);
        x.train(0);
        x.dull(0);
        x.swap(0, 1);
        x.nights(2);
        x.bed(0, -4);
        Check.addLaw(x, "y:d");
        x.snow(3);
        CHECK.same("undo of a night", x.undo(), 5);
        CHECK.same("NIGHT", x.count(4), 1);
        CHECK.same("LOG", x.count(10), 1);
        CHECK.same("undo of a night", x.undo(), 4);
        CHECK.same("NIGHT", x.count(4), 0);
        CHECK.same("LOG", x.count(10), 0);
        CHECK.same("GATE", x.most(4), 0);
        CHECK.same("DREAMT", x.count(6), 0);
        CHECK.same("TIRED", x.count(5), 0);
        menAre(x, 6, 1, 0, 2);
        CHECK.same("undo of swap", x.undo(), 3);
        menAre(x, 6, 0, 1, 2);
        CHECK.same("COINS", x.rule(2), 15);
        CHECK.same("undo of dull", x.undo(), 2);
        menAre(x, 1, 4, 3, 3);
        CHECK.same("COINS", x.rule(2), 18);
        CHECK.same("undo of train", x.undo(), 1);
        menAre(x, 2, 8, 5, 5);
        CHECK.same("COINS", x.rule(2), 20);
        CHECK.same("undo of bed", x.undo(), 0);
        menAre(x, 3, 0, 1, 0);
        CHECK.same("undo of none", x.undo(), NONE);
        statusIs(x, 0, 1, 0, 0, 0);
        CHECK.same("LAW stays", x.count(3), 0);
        CHECK.same("SNOW stays", x.count(7), 3);
    }

    /** The log has sixty nights again, when a later one that pushed the oldest out is undone. */
    private static void undoneLog() {
        DreamGuard x = Check.fort("sh9n1;mn1b0;mn9d0e0");
        Check.addLaw(x, "y:n<61&w=0?0;y:w=0?1;y:0");
        x.nights(60);
        x.bed(1, 1);
        for (int k = 0; k < 60; k++) {
            CHECK.same("log(" + k + ", 0)", x.log(k, 0), 2);
        }
        CHECK.same("LOG", x.count(10), 60);
        x.nights(5);
        CHECK.same("LOG", x.count(10), 60);
        for (int k = 0; k < 60; k++) {
            CHECK.same("log(" + k + ", 0)", x.log(k, 0), k < 5 ? 0 : 2);
        }
        CHECK.same("log(60, 0)", x.log(60, 0), NONE);
        for (int k = 0; k < 5; k++) {
            x.undo();
        }
        for (int k = 0; k < 60; k++) {
            CHECK.same("log(" + k + ", 0)", x.log(k, 0), 2);
        }
        CHECK.same("ACTS", x.count(11), 35);
        for (int k = 34; k >= 0; k--) {
            CHECK.same("undo", x.undo(), k);
        }
        CHECK.same("undo beyond forty", x.undo(), NONE);
        CHECK.same("NIGHT", x.count(4), 66 - 40);
        CHECK.same("LOG", x.count(10), 26);
    }

    private static void logs() {
        DreamGuard x = Check.fort("sh4n9c0;mn1;mn1b1;mn2b2");
        Check.addLaw(x, "y:n=0&h=0?9;y:n=1&h>2?9;y:n=2?8");
        x.nights(1);
        x.bed(1, 3);
        x.nights(1);
        x.bed(0, 2);
        x.nights(1);
        int[][] due = {{2, 0, 0}, {1, 2, 1}, {0, 1, 0}};
        for (int i = 0; i < 3; i++) {
            for (int what = 0; what < 3; what++) {
                CHECK.same("log(" + i + ", " + what + ")", x.log(i, what), due[i][what]);
            }
        }
        CHECK.same("log(3, 0)", x.log(3, 0), NONE);
        CHECK.same("LOG", x.count(10), 3);
        DreamGuard y = Check.fort("sh10n1;mn10;mn10;mn10;mn10;mn10;mn10");
        y.nights(1);
        CHECK.same("all hours unwatched", y.log(0, 0), 60);
        CHECK.same("none is woken", y.log(0, 1), 0);
        CHECK.same("the gate in all of them", y.log(0, 2), 60);
        DreamGuard z = Check.fort("sh6n1;mn1;mn1b1;mn1b2;mn1b3;mn1b4;mn1b5");
        z.nights(1);
        CHECK.same("none unwatched", z.log(0, 0), 0);
        CHECK.same("all are woken", z.log(0, 1), 63);
        CHECK.same("no gate", z.log(0, 2), 0);
    }

    private static void images() {
        DreamGuard x = Check.fort("sn3;mn2e8d4;mb1;mn3b7");
        CHECK.same("back to none", x.back(), NONE);
        x.nights(2);
        x.bed(1, 4);
        x.train(0);
        x.swap(0, 2);
        int[] before = seenFrom(x);
        CHECK.same("image()", x.image(), 2);
        CHECK.same("an image is no act", x.count(11), 5);
        x.nights(61 - 2);
        x.dull(0);
        x.train(1);
        x.bed(0, 5);
        x.swap(1, 2);
        x.years(4, 3);
        CHECK.same("back()", x.back(), 2);
        int[] behind = seenFrom(x);
        for (int k = 0; k < before.length; k++) {
            CHECK.same("what the image keeps, " + k, behind[k], before[k]);
        }
        CHECK.same("undo", x.undo(), NONE);
        CHECK.same("ACTS", x.count(11), 0);
        x.nights(3);
        CHECK.same("back() once more", x.back(), 2);
        x.nights(1);
        CHECK.same("image() instead of it", x.image(), 3);
        x.nights(1);
        CHECK.same("back() to the later one", x.back(), 3);
    }

    /** All that an image keeps, in one row. */
    private static int[] seenFrom(DreamGuard x) {
        int[] row = new int[3 * 7 + 3 + 2 * 3 + 1];
        int size = 0;
        for (int man = 0; man < 3; man++) {
            for (int what = 0; what < 7; what++) {
                row[size++] = x.man(man, what);
            }
        }
        row[size++] = x.rule(2);
        row[size++] = x.most(4);
        row[size++] = x.count(4);
        for (int i = 0; i < 2; i++) {
            for (int what = 0; what < 3; what++) {
                row[size++] = x.log(i, what);
            }
        }
        row[size] = x.count(10);
        return row;
    }

    private static void counts() {
        DreamGuard x = Check.fort("sn4c0;mn3d4e1b0;mn3d2e0b0;mn4d5b6");
        x.nights(2);
        Check.addLaw(x, "y:1");
        Check.addLaw(x, "y:2");
        Check.feed(x, "abc");
        x.snow(5);
        x.seen(0, 1, true);
        x.seen(0, 1, true);
        x.said(0, 1, true);
        int[] due = {3, 2, 3, 1, 2, 6, 46, 5, 2, 1, 2, 2};
        for (int what = 0; what <= 11; what++) {
            CHECK.same("count(" + what + ")", x.count(what), due[what]);
        }
        CHECK.same("count(12)", x.count(12), DreamGuard.HIDDEN);
        CHECK.same("count(-1)", x.count(-1), DreamGuard.HIDDEN);
        CHECK.same("NONE", DreamGuard.NONE, -1);
        CHECK.same("HIDDEN", DreamGuard.HIDDEN, -1000000);
    }
}
