/** The edges of the RING, of sleep and dreams, and of what a NIGHT leaves behind it. */
final class SleepEdges {
    private static final int NONE = Edges.NONE;
    private final Edges edges;

    SleepEdges(Edges edges) {
        this.edges = edges;
    }

    void run() {
        ring();
        hours();
        inBed();
        wokenThatNight();
        watched();
        dreamHeld();
        dreamWithoutLaw();
        letters();
        sleptAnHourMore();
        wokenAheadOfTheHour();
        nightmares();
        gate();
        dreamt();
        tired();
        coins();
        calmHours();
        log();
        lastNight();
        restedAtTheLast();
    }

    private int[] sleeps(DreamGuard x, int man) {
        int[] row = new int[x.rule(0)];
        for (int hour = 0; hour < row.length; hour++) {
            row[hour] = x.sleeps(man, hour);
        }
        return row;
    }

    private int[] dreams(DreamGuard x, int man) {
        int[] row = new int[x.rule(0)];
        for (int hour = 0; hour < row.length; hour++) {
            row[hour] = x.dream(man, hour);
        }
        return row;
    }

    private void ring() {
        edges.sentence("The RING: MEN by PLACES (at first by numbers); each is WATCHED by the one in the PLACE ahead of "
            + "his (the first by the last).");
        for (int men = 2; men <= 6; men++) {
            DreamGuard x = Check.fort("m" + ";m".repeat(men - 1));
            for (int man = 0; man < men; man++) {
                edges.same("PLACE of " + man + " of " + men, x.man(man, 6), man);
                edges.same("watcher of " + man + " of " + men, x.watcher(man), man == 0 ? men - 1 : man - 1);
            }
            x.swap(0, men - 1);
            edges.same("watcher of the first now", x.watcher(men - 1), 0);
            edges.same("watcher of the last now", x.watcher(0), men == 2 ? 1 : men - 2);
        }
        DreamGuard y = Check.fort("mn1;mn1b1;mn0e9");
        edges.same("the first, watched by the last with 9 eyes", y.dream(0, 0), 0);
        edges.same("the second, watched by the first with 5", y.dream(1, 1), 1);
    }

    private void hours() {
        edges.sentence("Of an HOUR of a NIGHT (0 .. HOURS - 1)");
        for (int hours = 4; hours <= 10; hours++) {
            DreamGuard x = Check.fort("sh" + hours + ";mn" + hours + "d0;mn0");
            edges.same("sleeps(0, -1)", x.sleeps(0, -1), NONE);
            edges.same("dream(0, -1)", x.dream(0, -1), NONE);
            edges.same("awake(-1)", x.awake(-1), NONE);
            for (int hour = 0; hour < hours; hour++) {
                edges.same("sleeps(0, " + hour + ") of " + hours, x.sleeps(0, hour), 2);
                edges.same("dream(0, " + hour + ") of " + hours, x.dream(0, hour), Math.max(0, hour - 2));
                edges.same("awake(" + hour + ") of " + hours, x.awake(hour), 2);
            }
            edges.same("sleeps(0, HOURS)", x.sleeps(0, hours), NONE);
            edges.same("dream(0, HOURS)", x.dream(0, hours), NONE);
            edges.same("awake(HOURS)", x.awake(hours), NONE);
        }
    }

    private void inBed() {
        edges.sentence("one is in BED from his HOUR on for as many as he NEEDS (not beyond the NIGHT)");
        DreamGuard x = Check.fort("sh6;mn2b3d0;mn0b3");
        edges.row("sleeps(0, ..)", sleeps(x, 0), 0, 0, 0, 2, 2, 0);
        edges.row("sleeps(1, ..), who NEEDS none", sleeps(x, 1), 0, 0, 0, 0, 0, 0);
        x.bed(0, 4);
        edges.row("sleeps(0, ..) until the end", sleeps(x, 0), 0, 0, 0, 0, 2, 2);
        x.bed(0, 5);
        edges.row("sleeps(0, ..) not beyond it", sleeps(x, 0), 0, 0, 0, 0, 0, 2);
        edges.same("slept(0, 0)", x.slept(0, 0), 1);
        DreamGuard y = Check.fort("sh4;mn4d0;mn0");
        edges.row("sleeps(0, ..), all the NIGHT", sleeps(y, 0), 2, 2, 2, 2);
        y.bed(0, 3);
        edges.row("sleeps(0, ..), the last HOUR", sleeps(y, 0), 0, 0, 0, 2);
        y.nights(1);
        edges.row("nothing of it goes on in the next NIGHT", sleeps(y, 0), 0, 0, 0, 2);
        edges.same("TIRED", y.man(0, 4), 3);
    }

    private void wokenThatNight() {
        edges.sentence("unless he was WOKEN that NIGHT: he SLEEPS.");
        DreamGuard x = Check.fort("sh4n3;mn4d2e0;mn0e0");
        edges.row("sleeps(0, ..)", sleeps(x, 0), 2, 2, 0, 0);
        edges.row("dream(0, ..)", dreams(x, 0), 2, 3, NONE, NONE);
        x.nights(1);
        edges.row("in the next NIGHT he SLEEPS again", sleeps(x, 0), 2, 2, 0, 0);
        edges.same("awake(1)", x.awake(1), 2);
        edges.same("awake(2)", x.awake(2), 3);
    }

    private void watched() {
        edges.sentence("One who SLEEPS is WATCHED in that HOUR, if his watcher does not SLEEP in it.");
        DreamGuard x = Check.fort("sh5;mn3d0b1;mn3d0b0");
        edges.row("sleeps(0, ..)", sleeps(x, 0), 0, 1, 1, 2, 0);
        edges.row("sleeps(1, ..)", sleeps(x, 1), 2, 1, 1, 0, 0);
        edges.row("awake(..)", new int[] {x.awake(0), x.awake(1), x.awake(2), x.awake(3), x.awake(4)}, 1, 0, 0, 2, 3);
    }

    private void dreamHeld() {
        edges.sentence("DREAM of one who SLEEPS: WORTH by the LAW that holds, held within 0 .. 20");
        DreamGuard x = Check.fort("sn20;mn5;mn0");
        Check.addLaw(x, "y:h=0?0-1;y:h=1?0;y:h=2?1;y:h=3?19;y:h=4?20");
        edges.row("dream(0, ..)", dreams(x, 0), 0, 0, 1, 19, 20, NONE, NONE, NONE);
        Check.addLaw(x, "y:h=0?0-9999;y:h=1?21;y:9999");
        edges.row("dream(0, ..)", dreams(x, 0), 0, 20, NONE, NONE, NONE, NONE, NONE, NONE);
        Check.addLaw(x, "y:h+17");
        x.bed(0, 3);
        edges.row("dream(0, ..)", dreams(x, 0), NONE, NONE, NONE, 20, NONE, NONE, NONE, NONE);
        x.bed(0, 2);
        edges.row("dream(0, ..)", dreams(x, 0), NONE, NONE, 19, 20, NONE, NONE, NONE, NONE);
    }

    private void dreamWithoutLaw() {
        edges.sentence("(none at first: DREAMS, and how many HOURS he slept this NIGHT ahead of this one, less EYES of his "
            + "watcher by 2, cut, if he is WATCHED)");
        for (int eyes = 0; eyes <= 9; eyes++) {
            DreamGuard x = Check.fort("sn20;mn3d2b1;mn0e" + eyes);
            edges.row("dream(0, ..) with " + eyes + " EYES", dreams(x, 0), NONE, Math.max(0, 2 - eyes / 2),
                Math.max(0, 3 - eyes / 2), Math.max(0, 4 - eyes / 2), NONE, NONE, NONE, NONE);
        }
        DreamGuard deep = Check.fort("sh10n20;mn10d9;mn10d0");
        edges.row("dream(0, ..) unwatched", dreams(deep, 0), 9, 10, 11, 12, 13, 14, 15, 16, 17, 18);
        edges.row("dream(1, ..) unwatched", dreams(deep, 1), 0, 1, 2, 3, 4, 5, 6, 7, 8, 9);
        edges.same("no LAW holds", deep.count(3), NONE);
        DreamGuard told = Check.fort("sh10n20;mn10d9e0;mn0e0");
        told.seen(0, 2, true);
        edges.row("with 9 more: 18, 19, 20", new int[] {told.who(9, NONE), told.who(9, 0)}, 1, 0);
        edges.same("with 8 more: 17, 18, 19", told.who(8, NONE), 0);
    }

    private void letters() {
        edges.sentence("letters: d DREAMS, i how many HOURS he slept this NIGHT ahead of this one, e EYES of his watcher, h the "
            + "HOUR, w whether WATCHED (1, 0), n the NIGHT.");
        DreamGuard x = Check.fort("sh10n20;mn3d9b4e1;mn1b6;mn0e9");
        x.nights(8);
        Check.addLaw(x, "y:d");
        edges.row("d", dreams(x, 0), NONE, NONE, NONE, NONE, 9, 9, 9, NONE, NONE, NONE);
        Check.addLaw(x, "y:i");
        edges.row("i, 0 in his first HOUR", dreams(x, 0), NONE, NONE, NONE, NONE, 0, 1, 2, NONE, NONE, NONE);
        Check.addLaw(x, "y:e");
        edges.row("e of his watcher, the last", dreams(x, 0), NONE, NONE, NONE, NONE, 9, 9, 9, NONE, NONE, NONE);
        edges.same("e, though he SLEEPS", x.dream(1, 6), 1);
        Check.addLaw(x, "y:h+w*10");
        edges.row("h and w", dreams(x, 0), NONE, NONE, NONE, NONE, 14, 15, 16, NONE, NONE, NONE);
        edges.same("w 0", x.dream(1, 6), 6);
        DreamGuard night = Check.fort("sn20;mn1;mn0");
        Check.addLaw(night, "y:n");
        edges.same("n 0 at first", night.dream(0, 0), 0);
        night.nights(19);
        edges.same("n", night.dream(0, 0), 19);
        edges.same("DREAMT of NIGHTS 0 to 18", night.man(0, 5), 171);
        Check.addLaw(night, "y:n/50");
        for (int k = 0; k < 16; k++) {
            night.nights(60);
        }
        night.nights(20);
        edges.same("n 999", night.count(4) * 100 + night.dream(0, 0), 99919);
    }

    private void sleptAnHourMore() {
        edges.sentence("each who SLEEPS has slept an HOUR more");
        DreamGuard x = Check.fort("sh10n20;mn10;mn10b9;mn0b9;mn1b9");
        edges.row("slept(.., 0)", new int[] {x.slept(0, 0), x.slept(1, 0), x.slept(2, 0), x.slept(3, 0)}, 10, 1, 0, 1);
    }

    private void wokenAheadOfTheHour() {
        edges.sentence("HOUR by HOUR, who SLEEPS and is WATCHED by who was WOKEN ahead of the HOUR");
        DreamGuard x = Check.fort("sh4n6;mn4d9e0;mn4d1e6;mn0e6");
        edges.row("who is WOKEN in HOUR 0 still SLEEPS in it", sleeps(x, 0), 2, 0, 0, 0);
        edges.row("whom he watches is WATCHED from HOUR 1 on", sleeps(x, 1), 1, 2, 2, 2);
        DreamGuard both = Check.fort("sh4n5;mn2d6e0b1;mn0;mn2d6e0b1;mn0e0");
        edges.row("two WOKEN, one later", new int[] {both.slept(0, 1), both.slept(2, 1)}, 1, 2);
        Check.addLaw(both, "y:9");
        edges.row("two WOKEN in one HOUR", new int[] {both.slept(0, 1), both.slept(2, 1)}, 1, 1);
        edges.same("WOKEN", both.night(3), 5);
        edges.same("unwatched", both.night(0), 0);
    }

    private void nightmares() {
        edges.sentence("if that is a NIGHTMARE and he is WATCHED, he is WOKEN (from the next HOUR on)");
        for (int from = 1; from <= 20; from++) {
            DreamGuard x = Check.fort("sh4n" + from + ";mn2;mn0");
            Check.addLaw(x, "y:" + (from - 1));
            edges.same("WOKEN by one less than " + from, x.slept(0, 1), NONE);
            edges.same("NIGHTMARES", x.night(2), 0);
            Check.addLaw(x, "y:" + from);
            edges.same("WOKEN by " + from, x.slept(0, 1), 0);
            edges.same("HOURS", x.slept(0, 0), 1);
            edges.same("NIGHTMARES", x.night(2), 1);
            Check.addLaw(x, "y:h=1?" + from);
            edges.same("WOKEN in his last HOUR", x.slept(0, 1), 1);
            edges.same("HOURS", x.slept(0, 0), 2);
            x.nights(1);
            edges.same("TIRED", x.man(0, 4), 0);
            edges.same("WOKEN", x.log(0, 1), 1);
        }
    }

    private void gate() {
        edges.sentence("is it one and he is not WATCHED, the GATE is opened once more.");
        DreamGuard x = Check.fort("sh4n5;mn2b1;mn2b1");
        Check.addLaw(x, "y:4");
        edges.same("GATE by 4", x.night(1), 0);
        Check.addLaw(x, "y:5");
        edges.same("GATE by 5", x.night(1), 4);
        edges.same("WOKEN", x.night(3), 0);
        edges.same("he SLEEPS on", x.slept(0, 0), 2);
        edges.same("GATE opened in all", x.most(4), 0);
        x.nights(1);
        edges.same("GATE opened in all", x.most(4), 4);
        x.nights(2);
        edges.same("GATE opened in all", x.most(4), 12);
        DreamGuard most = Check.fort("sh10n1;mn10d9;mn10d9;mn10d9;mn10d9;mn10d9;mn10d9");
        most.nights(60);
        edges.same("GATE opened in all", most.most(4), 3600);
        edges.same("unwatched HOURS", most.log(59, 0), 60);
        edges.same("GATE of one NIGHT", most.log(59, 2), 60);
    }

    private void dreamt() {
        edges.sentence("DREAMT of him (0 at first; 9,999 at most) is more by his DREAM");
        DreamGuard x = Check.fort("sh10n20;mn10;mn10");
        edges.row("DREAMT at first", View.men(x, 5), 0, 0);
        Check.addLaw(x, "y:20");
        x.nights(49);
        edges.row("DREAMT of 49 NIGHTS", View.men(x, 5), 9800, 9800);
        Check.addLaw(x, "y:h<9?20;y:18");
        x.nights(1);
        edges.row("DREAMT", View.men(x, 5), 9998, 9998);
        Check.addLaw(x, "y:h=0?1");
        x.nights(1);
        edges.row("DREAMT, just as much", View.men(x, 5), 9999, 9999);
        x.nights(1);
        edges.row("DREAMT, one too many", View.men(x, 5), 9999, 9999);
        x.undo();
        x.undo();
        edges.row("DREAMT undone", View.men(x, 5), 9998, 9998);
        x.law(0);
        x.nights(1);
        edges.row("DREAMT, far too many", View.men(x, 5), 9999, 9999);
        edges.same("DREAMT of all", x.count(6), 19998);
    }

    private void tired() {
        edges.sentence("TIRED of each is as much more as he NEEDS more than he slept (99 at most), if he slept as much, "
            + "1 less (0 at least);");
        DreamGuard x = Check.fort("sh10;mn10b9d0;mn0");
        edges.same("TIRED at first", x.man(0, 4), 0);
        x.nights(1);
        edges.row("TIRED of one NIGHT", View.men(x, 4), 9, 0);
        x.nights(9);
        x.bed(0, 1);
        x.nights(8);
        edges.same("TIRED", x.man(0, 4), 98);
        x.nights(1);
        edges.same("TIRED, just as much", x.man(0, 4), 99);
        x.nights(1);
        edges.same("TIRED, one too many", x.man(0, 4), 99);
        x.undo();
        x.undo();
        x.bed(0, 9);
        x.nights(1);
        edges.same("TIRED, eight too many", x.man(0, 4), 99);
        x.bed(0, 0);
        Check.addLaw(x, "y:0");
        x.nights(1);
        edges.same("TIRED, 1 less", x.man(0, 4), 98);
        x.nights(60);
        x.nights(37);
        edges.same("TIRED", x.man(0, 4), 1);
        x.nights(1);
        edges.same("TIRED no more", x.man(0, 4), 0);
        x.nights(1);
        edges.same("TIRED, 0 at least", x.man(0, 4), 0);
        edges.same("TIRED of all", x.count(5), 0);
    }

    private void coins() {
        edges.sentence("COINS one more for each HOUR in which somebody was WATCHED and nobody slept unwatched (999 at most).");
        DreamGuard x = Check.fort("sh10c98;mn5d0;mn5d0b5");
        x.nights(60);
        x.nights(30);
        edges.same("COINS of 90 NIGHTS", x.rule(2), 998);
        x.nights(1);
        edges.same("COINS, nine too many", x.rule(2), 999);
        x.nights(1);
        edges.same("COINS, ten too many", x.rule(2), 999);
        x.swap(0, 1);
        edges.same("COINS", x.rule(2), 998);
        Check.addLaw(x, "y:9");
        x.bed(1, 0);
        x.nights(1);
        edges.same("COINS for no calm HOUR", x.rule(2), 998);
        x.bed(1, 9);
        Check.addLaw(x, "y:0");
        x.bed(0, 9);
        x.nights(1);
        edges.same("COINS, all unwatched", x.rule(2), 998);
        x.bed(0, 8);
        x.nights(1);
        edges.same("COINS, just as much", x.rule(2), 999);
    }

    private void calmHours() {
        edges.sentence("for each HOUR in which somebody was WATCHED and nobody slept unwatched");
        DreamGuard none = Check.fort("sc0;mn0;mn0");
        none.nights(1);
        edges.same("COINS, nobody sleeps", none.rule(2), 0);
        DreamGuard one = Check.fort("sc0;mn1d0;mn0");
        one.nights(1);
        edges.same("COINS, one HOUR", one.rule(2), 1);
        DreamGuard two = Check.fort("sc0;mn1d0;mn0;mn1d0;mn0");
        two.nights(1);
        edges.same("COINS, two are WATCHED in one HOUR", two.rule(2), 1);
        DreamGuard mixed = Check.fort("sc0;mn1d0;mn1d0;mn0");
        edges.row("one is WATCHED, one is not", new int[] {mixed.sleeps(0, 0), mixed.sleeps(1, 0)}, 2, 1);
        mixed.nights(1);
        edges.same("COINS", mixed.rule(2), 0);
    }

    /** Two men sleep all night unwatched and open the gate in as many hours as the night by 7 leaves over. */
    private void log() {
        edges.sentence("LOG: HOURS slept unwatched (of all together), who was WOKEN (bits), how often the GATE was opened "
            + "(the latest 60).");
        DreamGuard x = Check.fort("sh10n20;mn10;mn10");
        Check.addLaw(x, "y:n-n/7*7>h?20");
        edges.same("LOG of no NIGHT", x.count(10), 0);
        edges.same("log(0, 0)", x.log(0, 0), NONE);
        x.nights(59);
        logIs(x, 59);
        x.nights(1);
        logIs(x, 60);
        x.nights(1);
        logIs(x, 61);
        x.nights(60);
        logIs(x, 121);
        x.undo();
        logIs(x, 120);
        edges.same("log(0, 0)", x.log(0, 0), 20);
        edges.same("log(0, 1)", x.log(0, 1), 0);
        DreamGuard three = Check.fort("sh10n20;mn0;mn10;mn10;mn10;mn10;mn10");
        Check.addLaw(three, "y:w=0?20;y:h=9?20");
        three.nights(1);
        edges.row("log(0, ..)", new int[] {three.log(0, 0), three.log(0, 1), three.log(0, 2)}, 40, 2, 40);
        DreamGuard all = Check.fort("sh6n1;mn1;mn1b1;mn1b2;mn1b3;mn1b4;mn1b5");
        all.nights(1);
        edges.row("log(0, ..)", new int[] {all.log(0, 0), all.log(0, 1), all.log(0, 2)}, 0, 63, 0);
    }

    private void logIs(DreamGuard x, int nights) {
        int length = Math.min(60, nights);
        edges.same("LOG of " + nights + " NIGHTS", x.count(10), length);
        for (int i = 0; i < length; i++) {
            edges.same("log(" + i + ", 2) of " + nights, x.log(i, 2), 2 * ((nights - 1 - i) % 7));
        }
        for (int what = 0; what < 3; what++) {
            edges.same("log(" + length + ", " + what + ")", x.log(length, what), NONE);
        }
    }

    private void lastNight() {
        edges.sentence("A NIGHT (0 at first; 999 at most: none goes by then)");
        DreamGuard x = Check.fort("mn1b7;mn2b7");
        edges.same("NIGHT at first", x.count(4), 0);
        for (int k = 1; k <= 16; k++) {
            edges.same("nights(60)", x.nights(60), 60 * k);
        }
        edges.same("nights(38)", x.nights(38), 998);
        edges.same("nights(2)", x.nights(2), NONE);
        edges.same("NIGHT", x.count(4), 998);
        edges.same("nights(1)", x.nights(1), 999);
        edges.same("nights(1)", x.nights(1), NONE);
        edges.same("years(1, 1)", x.years(1, 1), NONE);
        edges.same("NIGHT", x.count(4), 999);
        edges.status(x, 0, 0, 0, 0, 2);
        edges.same("LOG", x.count(10), 60);
        edges.same("RESTED, when none goes by", x.most(3), NONE);
        edges.same("undo()", x.undo(), 39);
        edges.same("NIGHT", x.count(4), 998);
        edges.same("years(1, 1)", x.years(1, 1), 999);
        edges.same("a NIGHT now can be asked for", x.night(0) >= 0 ? 1 : 0, 1);
    }

    private void restedAtTheLast() {
        edges.sentence("999 at most: none goes by then");
        DreamGuard x = Check.fort("mn2b7d0;mn0");
        x.nights(2);
        x.bed(0, 6);
        edges.same("RESTED in two", x.most(3), 2);
        x.bed(0, 7);
        x.nights(1);
        x.bed(0, 6);
        x.nights(3);
        for (int k = 0; k < 16; k++) {
            x.nights(60);
        }
        x.nights(29);
        x.bed(0, 7);
        x.nights(2);
        x.bed(0, 6);
        edges.same("NIGHT", x.count(4), 997);
        edges.same("RESTED in two, and two are left", x.most(3), 2);
        x.undo();
        x.nights(1);
        x.bed(0, 6);
        edges.same("TIRED", x.man(0, 4), 3);
        edges.same("RESTED in three, but one is left", x.most(3), NONE);
        x.nights(1);
        edges.same("RESTED in two, but none is left", x.most(3), NONE);
        x.undo();
        x.undo();
        x.undo();
        x.undo();
        edges.same("TIRED", x.man(0, 4), 1);
        x.bed(0, 6);
        x.nights(1);
        edges.same("RESTED", x.most(3), 0);
        x.bed(0, 7);
        x.nights(1);
        x.bed(0, 6);
        edges.same("RESTED in one, the last", x.most(3), 1);
        x.undo();
        x.undo();
        x.undo();
        edges.same("NIGHT", x.count(4), 997);
        x.nights(1);
        x.bed(0, 7);
        x.nights(1);
        x.bed(0, 6);
        edges.row("NIGHT and TIRED", new int[] {x.count(4), x.man(0, 4)}, 999, 1);
        edges.same("RESTED in one, but none is left", x.most(3), NONE);
    }
}
