/** Promises 26 to 32, 34, 35, 37 and 38: seen, who, said, liars, games, shares, watchers, the most, spare hours. */
public final class MenTest {
    private static final Check CHECK = new Check();
    private static final int NONE = DreamGuard.NONE;
    private static final int HIDDEN = DreamGuard.HIDDEN;

    private MenTest() { }

    public static void main(String[] args) {
        withoutFort();
        seen();
        who();
        whoAsTold();
        whoAboveNine();
        said();
        liars();
        games();
        gamesByPlaces();
        rests();
        shares();
        watchers();
        most();
        rested();
        spare();
        CHECK.finish();
    }

    private static void withoutFort() {
        DreamGuard x = new DreamGuard();
        CHECK.same("seen", x.seen(0, 0, true), NONE);
        CHECK.same("who", x.who(1, NONE), NONE);
        CHECK.same("hourToAsk", x.hourToAsk(1), NONE);
        CHECK.same("said", x.said(0, 1, true), NONE);
        CHECK.same("liars", x.liars(), NONE);
        CHECK.same("game", x.game(0, 1, 0, 0, 0), HIDDEN);
        CHECK.same("rests", x.rests(0, 1, NONE), NONE);
        CHECK.same("shares", x.shares(0, 1), NONE);
        CHECK.same("watcher", x.watcher(0), NONE);
        CHECK.same("spare", x.spare(0), NONE);
        for (int what = 0; what < 5; what++) {
            CHECK.same("most", x.most(what), NONE);
        }
    }

    private static void seen() {
        DreamGuard x = Check.fort("m;m");
        CHECK.same("seen(2, ..)", x.seen(2, 0, false), NONE);
        CHECK.same("seen(-1, ..)", x.seen(-1, 0, false), NONE);
        CHECK.same("seen(0, 10, ..)", x.seen(0, 10, false), NONE);
        CHECK.same("seen(0, -1, ..)", x.seen(0, -1, false), NONE);
        CHECK.same("SEEN", x.count(8), 0);
        for (int k = 1; k <= 10; k++) {
            CHECK.same("seen", x.seen(1, 9, false), k);
        }
        CHECK.same("an eleventh", x.seen(1, 9, false), NONE);
        CHECK.same("SEEN", x.count(8), 10);
        CHECK.same("status", x.status(0) + x.status(1), 0);
        CHECK.same("no hour 9, so not woken then", x.who(1, NONE), 3);
    }

    private static void whoIs(DreamGuard x, int g, int... due) {
        CHECK.same("who(" + g + ", NONE)", x.who(g, NONE), due.length);
        for (int i = 0; i < due.length; i++) {
            CHECK.same("who(" + g + ", " + i + ")", x.who(g, i), due[i]);
        }
        CHECK.same("who(" + g + ", " + due.length + ")", x.who(g, due.length), NONE);
        CHECK.same("who(" + g + ", -2)", x.who(g, -2), NONE);
    }

    private static void who() {
        DreamGuard x = Check.fort("mn1d3e0;mn1d3e0b1");
        whoIs(x, 4, 0, 1, 9);
        CHECK.same("hourToAsk(4), of several the least", x.hourToAsk(4), 0);
        x.seen(0, 0, false);
        whoIs(x, 4, 1, 9);
        CHECK.same("hourToAsk(4)", x.hourToAsk(4), 11);
        whoIs(x, 3, 0, 1, 9);
        x.seen(1, 1, true);
        whoIs(x, 4, 1);
        CHECK.same("hourToAsk(4) of one", x.hourToAsk(4), 0);
        whoIs(x, 3);
        CHECK.same("hourToAsk(3) of none", x.hourToAsk(3), NONE);
        CHECK.same("who(0, ..)", x.who(0, NONE), NONE);
        CHECK.same("who(10, ..)", x.who(10, NONE), NONE);
        CHECK.same("hourToAsk(0)", x.hourToAsk(0), NONE);
        CHECK.same("hourToAsk(10)", x.hourToAsk(10), NONE);
        whoIs(x, 9, 1);
    }

    /** Neither acts nor nights count for what was seen in the first night, but the law that holds. */
    private static void whoAsTold() {
        DreamGuard x = Check.fort("mn1d3e0;mn1d3e0b1");
        x.seen(1, 1, true);
        x.dull(1);
        x.bed(1, 5);
        x.train(0);
        x.train(0);
        x.nights(4);
        x.swap(0, 1);
        whoIs(x, 4, 1);
        Check.addLaw(x, "y:n+7");
        whoIs(x, 1, 0, 1, 9);
        CHECK.same("hourToAsk, woken by all", x.hourToAsk(1), 0);
        Check.addLaw(x, "y:n*7");
        whoIs(x, 1);
    }

    private static void whoAboveNine() {
        DreamGuard x = Check.fort("sn17;mn1d9e0;mn0e0");
        x.seen(0, 0, true);
        whoIs(x, 7);
        whoIs(x, 8, 0);
        DreamGuard all = Check.fort("mn0;mn0;mn0;mn0;mn0;mn0");
        whoIs(all, 9, 0, 1, 2, 3, 4, 5, 9);
        DreamGuard y = Check.fort("mn9d9e0b0;mn9d9e0b0;sh10n20");
        CHECK.same("GATE", y.night(1), 0);
        whoIs(y, 9, 0, 1, 9);
        CHECK.same("hourToAsk, none is ever woken", y.hourToAsk(9), 0);
    }

    private static void said() {
        DreamGuard x = Check.fort("m;m;m");
        CHECK.same("said(0, 0, ..)", x.said(0, 0, true), NONE);
        CHECK.same("said(3, 0, ..)", x.said(3, 0, true), NONE);
        CHECK.same("said(0, 3, ..)", x.said(0, 3, true), NONE);
        CHECK.same("said(-1, 0, ..)", x.said(-1, 0, true), NONE);
        CHECK.same("said(0, -1, ..)", x.said(0, -1, true), NONE);
        CHECK.same("SAID", x.count(9), 0);
        CHECK.same("liars of none", x.liars(), 0);
        for (int k = 1; k <= 10; k++) {
            CHECK.same("said", x.said(0, 2, true), k);
        }
        CHECK.same("an eleventh", x.said(0, 2, true), NONE);
        CHECK.same("SAID", x.count(9), 10);
        CHECK.same("liars", x.liars(), 1);
    }

    private static void liars() {
        DreamGuard x = Check.fort("sh4n5c9;mn2d4e2b0;mn2d4e9b2;mn1d9e0b0");
        x.said(1, 0, false);
        x.said(0, 1, true);
        x.said(2, 0, true);
        x.said(2, 1, false);
        CHECK.same("liars", x.liars(), 3);
        Check.addLaw(x, "y:0");
        CHECK.same("liars of a night now", x.liars(), 5);
        x.nights(1);
        x.undo();
        CHECK.same("SAID stays", x.count(9), 4);
    }

    private static void games() {
        DreamGuard x = Check.fort("sn5;mn1d5e0;mn1d6e0b1");
        int[] ones = {6, 5, 4, 3};
        int[] others = {6, 5, 6, 5};
        for (int x1 = 0; x1 < 4; x1++) {
            for (int y = 0; y < 4; y++) {
                CHECK.same("game, the one", x.game(0, 1, x1, y, 0), ones[x1]);
                CHECK.same("game, the other", x.game(0, 1, x1, y, 1), others[y]);
                CHECK.same("game, turned round", x.game(1, 0, y, x1, 0), others[y]);
            }
        }
        CHECK.same("game(0, 0, ..)", x.game(0, 0, 0, 0, 0), HIDDEN);
        CHECK.same("game(2, 0, ..)", x.game(2, 0, 0, 0, 0), HIDDEN);
        CHECK.same("game(0, -1, ..)", x.game(0, -1, 0, 0, 0), HIDDEN);
        CHECK.same("game x 4", x.game(0, 1, 4, 0, 0), HIDDEN);
        CHECK.same("game x -1", x.game(0, 1, -1, 0, 0), HIDDEN);
        CHECK.same("game y 4", x.game(0, 1, 0, 4, 0), HIDDEN);
        CHECK.same("game y -1", x.game(0, 1, 0, -1, 0), HIDDEN);
        CHECK.same("game what 2", x.game(0, 1, 0, 0, 2), HIDDEN);
        CHECK.same("game what -1", x.game(0, 1, 0, 0, -1), HIDDEN);
    }

    private static void gamesByPlaces() {
        DreamGuard x = Check.fort("sn5;mn1d0;mn1d9e9b1;mn1d5e0b2");
        CHECK.same("he watches 0, who dreams nothing", x.game(2, 0, 0, 0, 0), 8);
        CHECK.same("he watches 1: 9 - 2", x.game(2, 0, 0, 0, 1), 6);
        CHECK.same("eyes above 9: 5 - 4", x.game(1, 0, 1, 0, 0), 7);
        x.swap(1, 2);
        CHECK.same("0 watches 2 now: 5 - 2", x.game(0, 1, 0, 0, 0), 8);
        CHECK.same("1 watches 0 now", x.game(0, 1, 0, 0, 1), 8);
        CHECK.same("2 watches 1 now: 9 - 0", x.game(0, 2, 0, 0, 1), 6);
        DreamGuard y = Check.fort("sn5;mn3d5;mn3d5");
        CHECK.same("three nightmares each, unwatched", y.game(0, 1, 3, 0, 0), -1);
        CHECK.same("three nightmares each, unwatched", y.game(0, 1, 3, 0, 1), 2);
        DreamGuard z = Check.fort("sn6;mn0e9;mn1d9");
        Check.addLaw(z, "y:18-e");
        CHECK.same("eyes 12", z.game(0, 1, 3, 0, 0), 3);
        Check.addLaw(z, "y:17-e");
        CHECK.same("eyes 12", z.game(0, 1, 3, 0, 0), 5);
    }

    private static void rests() {
        DreamGuard x = Check.fort("sn5;mn1d5e0;mn1d6e0b1");
        CHECK.same("rests(0, 1, NONE)", x.rests(0, 1, NONE), 2);
        CHECK.same("rests(0, 1, 0)", x.rests(0, 1, 0), 0);
        CHECK.same("rests(0, 1, 1)", x.rests(0, 1, 1), 2);
        CHECK.same("rests(0, 1, 2)", x.rests(0, 1, 2), NONE);
        CHECK.same("rests(0, 1, -2)", x.rests(0, 1, -2), NONE);
        CHECK.same("rests(1, 0, NONE)", x.rests(1, 0, NONE), 2);
        CHECK.same("rests(1, 0, 1)", x.rests(1, 0, 1), 20);
        CHECK.same("rests(0, 0, NONE)", x.rests(0, 0, NONE), NONE);
        CHECK.same("rests(0, 2, NONE)", x.rests(0, 2, NONE), NONE);
        CHECK.same("rests(-1, 0, NONE)", x.rests(-1, 0, NONE), NONE);
        DreamGuard y = Check.fort("sn5;mn1d5e1;mn1d5e1b1");
        CHECK.same("one more of eyes helps both", y.rests(0, 1, NONE), 1);
        CHECK.same("the one rest", y.rests(0, 1, 0), 11);
    }

    private static void shares() {
        DreamGuard x = Check.fort("me2;me9;me0");
        CHECK.same("shares(0, 100)", x.shares(0, 100), 18);
        CHECK.same("shares(1, 100)", x.shares(1, 100), 81);
        CHECK.same("shares(2, 100)", x.shares(2, 100), 0);
        CHECK.same("shares(1, 999)", x.shares(1, 999), 817);
        CHECK.same("shares(1, 0)", x.shares(1, 0), 0);
        CHECK.same("shares(1, 1000)", x.shares(1, 1000), NONE);
        CHECK.same("shares(1, -1)", x.shares(1, -1), NONE);
        CHECK.same("shares(3, 1)", x.shares(3, 1), NONE);
        CHECK.same("shares(-1, 1)", x.shares(-1, 1), NONE);
        x.train(0);
        CHECK.same("shares(0, 100), trained", x.shares(0, 100), 25);
        DreamGuard y = Check.fort("me0;me0");
        CHECK.same("shares of no eyes", y.shares(0, 100), 0);
        DreamGuard z = Check.fort("me1;me0");
        CHECK.same("shares of one eye", z.shares(0, 7), 7);
    }

    private static void watchers() {
        DreamGuard x = Check.fort("m;m;m;m");
        int[] due = {3, 0, 1, 2};
        for (int man = 0; man < 4; man++) {
            CHECK.same("watcher(" + man + ")", x.watcher(man), due[man]);
        }
        x.swap(0, 2);
        int[] then = {1, 2, 3, 0};
        for (int man = 0; man < 4; man++) {
            CHECK.same("watcher(" + man + ")", x.watcher(man), then[man]);
        }
        CHECK.same("watcher(4)", x.watcher(4), NONE);
        CHECK.same("watcher(-1)", x.watcher(-1), NONE);
    }

    private static void most() {
        DreamGuard x = Check.fort("sn4c0;mn3d4e1b0;mn3d2e0b0;mn4d5b6;mn0e5");
        CHECK.same("TIREDEST, the lowest", x.most(0), 0);
        CHECK.same("SOUNDEST, the lowest", x.most(1), 0);
        CHECK.same("KEENEST, the lowest", x.most(2), 2);
        DreamGuard y = Check.fort("mn2e1b0;mn3e2d0b6;mn1b3");
        CHECK.same("KEENEST", y.most(2), 2);
        y.train(1);
        y.train(1);
        y.train(1);
        CHECK.same("KEENEST, the lowest", y.most(2), 1);
        y.nights(1);
        CHECK.same("TIREDEST", y.most(0), 1);
        CHECK.same("SOUNDEST", y.most(1), 1);
        CHECK.same("most(5)", x.most(5), NONE);
        CHECK.same("most(-1)", x.most(-1), NONE);
        x.nights(1);
        CHECK.same("TIREDEST", x.most(0), 2);
        CHECK.same("SOUNDEST", x.most(1), 3);
        CHECK.same("GATE", x.most(4), 1);
        x.nights(1);
        CHECK.same("GATE", x.most(4), 2);
    }

    private static void rested() {
        DreamGuard x = Check.fort("mn2b7;mn2b2");
        CHECK.same("RESTED now", x.most(3), 0);
        x.nights(3);
        CHECK.same("never RESTED", x.most(3), NONE);
        x.bed(0, 5);
        CHECK.same("RESTED in three", x.most(3), 3);
        x.nights(2);
        CHECK.same("RESTED in one", x.most(3), 1);
        x.nights(1);
        CHECK.same("RESTED now", x.most(3), 0);
        x.bed(0, 7);
        x.nights(60);
        x.bed(0, 5);
        CHECK.same("RESTED in sixty", x.most(3), 60);
        x.bed(0, 7);
        x.nights(1);
        x.bed(0, 5);
        CHECK.same("not within sixty", x.most(3), NONE);
        DreamGuard y = Check.fort("mn2;mn0");
        Check.addLaw(y, "y:n<2?9;y:n<5?0;y:9");
        y.nights(1);
        CHECK.same("RESTED by the nights' law", y.most(3), 3);
    }

    private static void spare() {
        DreamGuard x = Check.fort("mn8;mn0;sh10;m");
        CHECK.same("spare(0)", x.spare(0), 2);
        CHECK.same("spare(1)", x.spare(1), 10);
        CHECK.same("spare(2)", x.spare(2), 7);
        CHECK.same("spare(3)", x.spare(3), NONE);
        CHECK.same("spare(-1)", x.spare(-1), NONE);
    }
}
