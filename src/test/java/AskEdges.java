/** The edges of what is asked: of a NIGHT now, of searches, of what was SEEN and SAID, of games and odds. */
final class AskEdges {
    private static final int NONE = Edges.NONE;
    private static final int HIDDEN = Edges.HIDDEN;
    private final Edges edges;

    AskEdges(Edges edges) {
        this.edges = edges;
    }

    void run() {
        apart();
        nightNow();
        allTogether();
        staggerRows();
        staggerFewest();
        staggerRowAlone();
        staggerUnwoken();
        ringRows();
        ringLeast();
        ringEachRow();
        bestBed();
        seenTen();
        seenHours();
        whoGrowth();
        whoAboveNine();
        whoRising();
        look();
        saidTen();
        saidOfAnother();
        liars();
        gameMoves();
        gameGains();
        rests();
        restsByGames();
        odds();
        shares();
        ofSeveralTheLowest();
        watcherAndAwake();
        fewest();
        rested();
        spare();
    }

    private void apart() {
        edges.sentence("(Apart, from as it is now.)");
        DreamGuard x = Check.fort("sn4;mn3d4e1b0;mn3d2e0b0;mn4d5b6");
        x.nights(2);
        x.seen(0, 0, true);
        x.said(0, 1, true);
        java.util.List<String> before = View.of(x);
        edges.holds("asking for all changes nothing", View.of(x).equals(before));
        edges.status(x, 0, 0, 0, 0, 0);
    }

    private void nightNow() {
        edges.sentence("Of a NIGHT now: whether a MAN SLEEPS in an HOUR (1, WATCHED: 2, 0), his DREAM in it, how many HOURS he "
            + "sleeps, the HOUR in which he is WOKEN;");
        DreamGuard x = Check.fort("sh4n5c9;mn2d4e2b0;mn2d4e9b2;mn1d9e0b0");
        edges.row("sleeps(.., 0)", new int[] {x.sleeps(0, 0), x.sleeps(1, 0), x.sleeps(2, 0)}, 1, 0, 2);
        edges.row("dream(.., 0)", new int[] {x.dream(0, 0), x.dream(1, 0), x.dream(2, 0)}, 4, NONE, 5);
        edges.row("slept(.., 0)", new int[] {x.slept(0, 0), x.slept(1, 0), x.slept(2, 0)}, 2, 2, 1);
        edges.row("slept(.., 1)", new int[] {x.slept(0, 1), x.slept(1, 1), x.slept(2, 1)}, 1, NONE, 0);
        DreamGuard last = Check.fort("sh4n5;mn4d2e0;mn0e0");
        edges.same("WOKEN in the last HOUR", last.slept(0, 1), 3);
        edges.same("HOURS", last.slept(0, 0), 4);
        edges.same("HOURS of one who NEEDS none", last.slept(1, 0), 0);
    }

    private void allTogether() {
        edges.sentence("HOURS slept unwatched; how often the GATE would be opened; NIGHTMARES, how many.");
        DreamGuard x = Check.fort("sh10n18;mn10d9;mn10d9;mn10d9;mn10d9;mn10d9;mn10d9");
        edges.row("all in their last HOUR", new int[] {x.night(0), x.night(1), x.night(2)}, 60, 6, 6);
        DreamGuard none = Check.fort("mn0;mn0");
        edges.row("none", new int[] {none.night(0), none.night(1), none.night(2), none.night(3)}, 0, 0, 0, 0);
        DreamGuard both = Check.fort("sh4n5;mn2d5e0;mn2d5e0;mn0e1");
        edges.row("WATCHED and not", new int[] {both.night(0), both.night(1), both.night(2), both.night(3)}, 1, 1, 3, 3);
    }

    private void stagger(String fort, int changes, int row) {
        DreamGuard x = Check.fort(fort);
        edges.same("stagger(0) of " + fort, x.stagger(0), changes);
        edges.same("stagger(1) of " + fort, x.stagger(1), row);
    }

    private void staggerRows() {
        edges.sentence("STAGGER: rows of BEDS (digits by MEN by numbers, the first the highest; below HOURS, and each so that "
            + "he has what he NEEDS within the NIGHT)");
        stagger("sh4;mn2b2;mn2", 0, 20);
        stagger("sh4;mn2;mn2b2", 0, 2);
        stagger("sh4;mn4;mn0b3", 0, 3);
        stagger("sh4;mn0b3;mn4", 0, 30);
        stagger("sh10;mn0b9;mn10", 0, 90);
        stagger("sh10;mn9b1;mn1", 0, 10);
        stagger("sh10;mn9b2;mn1", 1, 10);
        stagger("sh10;mn5b6;mn0", 1, 0);
        stagger("sh10;mn10b1;mn0b9", 1, 9);
        stagger("sh10;mn1b9;mn0b9;mn1b9;mn0b9;mn1b9;mn0b9", 0, 999999);
        stagger("sh4;mn3b1;mn1", 0, 10);
        stagger("sh4;mn3b2;mn1", 1, 10);
        edges.sentence("by which nobody, was nobody WOKEN, would ever sleep unwatched");
        stagger("sh4;mn3;mn2", NONE, NONE);
        stagger("sh5;mn3;mn2", 1, 3);
        stagger("sh8;mn3;mn3;mn3", NONE, NONE);
        stagger("sh9;mn3;mn3;mn3", 2, 36);
        stagger("sh8;mn4;mn4;mn4;mn4;mn4;mn4", 3, 40404);
        stagger("sh10;mn10;mn1", NONE, NONE);
    }

    private void staggerFewest() {
        edges.sentence("the fewest MEN with another BED than now (of several the least row): how many; the row.");
        stagger("sh4;mn2;mn2", 1, 2);
        stagger("sh4;mn1b1;mn1b1", 1, 1);
        stagger("sh6;mn2b1;mn2b1", 1, 13);
        stagger("sh6;mn2b2;mn2b2", 1, 2);
        stagger("sh4;mn1b3;mn1b3;mn1b3", 2, 13);
        stagger("sh6;mn1b5;mn1b5;mn1b5;mn1b5;mn1b5;mn1b5", 3, 50505);
        stagger("sh9;mn3b6;mn3b6;mn3b6", 2, 36);
        DreamGuard x = Check.fort("sh4;mn2;mn2;mn0");
        edges.same("stagger(0)", x.stagger(0), 1);
        edges.same("stagger(1)", x.stagger(1), 20);
        DreamGuard apart = Check.fort("sh4;mn2;mn0;mn2;mn0");
        edges.same("stagger(0), none ahead of the other", apart.stagger(0), 0);
        apart.swap(1, 2);
        edges.same("stagger(0), one ahead of the other", apart.stagger(0), 1);
        edges.same("stagger(1), digits by MEN", apart.stagger(1), 20);
        apart.bed(2, 2);
        edges.same("stagger(0), by the BED now", apart.stagger(0), 0);
        edges.same("stagger(1)", apart.stagger(1), 20);
    }

    private void staggerRowAlone() {
        edges.sentence("how many; the row.");
        DreamGuard x = Check.fort("sh4;mn0;mn2;mn0;mn2");
        x.swap(0, 1);
        edges.same("the row alone: 1, 0, 2, 3", x.stagger(1), 2);
        x.swap(0, 3);
        edges.same("the row alone: 1, 3, 2, 0", x.stagger(1), 2);
        edges.same("the row once more", x.stagger(1), 2);
        x.swap(3, 2);
        edges.same("the row alone: 1, 2, 3, 0", x.stagger(1), 0);
        edges.same("how many", x.stagger(0), 0);
        DreamGuard y = Check.fort("sh4;mn2;mn2");
        edges.same("the row at first", y.stagger(1), 2);
    }

    private void staggerUnwoken() {
        edges.sentence("was nobody WOKEN, would ever sleep unwatched");
        DreamGuard x = Check.fort("sh4n1;mn2d9;mn2d9b1");
        edges.same("he is WOKEN, and the other one WATCHED", x.night(0), 0);
        edges.same("stagger(0)", x.stagger(0), 1);
        edges.same("stagger(1)", x.stagger(1), 2);
    }

    private void ringRows() {
        edges.sentence("RING of MEN: rows of all (digits by PLACES, the first as now) by which NIGHTMARES of a NIGHT are fewest");
        DreamGuard x = Check.fort("sh4n5;mn1d5e0;mn0e9;mn0e0");
        edges.same("NIGHTMARES", x.night(2), 1);
        edges.row("ring", new int[] {x.ring(0), x.ring(1)}, 21, 0);
        x.swap(0, 1);
        edges.row("ring, 1 is the first", new int[] {x.ring(0), x.ring(1)}, 102, 0);
        x.swap(1, 2);
        edges.row("ring, 2 is the first", new int[] {x.ring(0), x.ring(1)}, 210, 0);
        DreamGuard two = Check.fort("sh4n5;mn1d5e0;mn1d5e0b1");
        edges.row("ring of two", new int[] {two.ring(0), two.ring(1)}, 1, 2);
        two.swap(0, 1);
        edges.row("ring of two", new int[] {two.ring(0), two.ring(1)}, 10, 2);
        DreamGuard six = Check.fort("sn9;mn1e5;mn1e4b1;mn1e3b2;mn1e2b3;mn1e1b4;mn1e0b5");
        Check.addLaw(six, "y:h=0&e=4|h=5&e=5|h=4&e=0|h=3&e=1|h=2&e=2|h=1&e=3?0;y:9");
        edges.row("ring of six, the greatest row", new int[] {six.ring(0), six.ring(1)}, 54321, 0);
        six.swap(0, 5);
        edges.row("ring of six, 5 is the first", new int[] {six.ring(0), six.ring(1)}, 543210, 0);
    }

    private void ringLeast() {
        edges.sentence("(of several the least row): the row; how many.");
        for (int men = 2; men <= 6; men++) {
            DreamGuard x = Check.fort("mn0" + ";mn0".repeat(men - 1));
            int[] least = {1, 12, 123, 1234, 12345};
            edges.row("ring, no NIGHTMARES at all", new int[] {x.ring(0), x.ring(1)}, least[men - 2], 0);
            x.swap(0, 1);
            int[] turned = {10, 102, 1023, 10234, 102345};
            edges.row("ring, 1 is the first", new int[] {x.ring(0), x.ring(1)}, turned[men - 2], 0);
        }
        DreamGuard y = Check.fort("sh4n5;mn1d9e0;mn0e2;mn0e0");
        edges.row("ring, all alike", new int[] {y.ring(0), y.ring(1)}, 12, 1);
    }

    /** A law by which all dream badly but with the watchers of one row. */
    private void ringEachRow() {
        edges.sentence("by which NIGHTMARES of a NIGHT are fewest");
        for (int digits = 12345; digits <= 54321; digits++) {
            String row = ("0" + digits).substring(String.valueOf(digits).length() - 5);
            if (row.chars().distinct().count() < 6 || row.chars().anyMatch(c -> c > '5')) {
                continue;
            }
            StringBuilder law = new StringBuilder("y:");
            for (int place = 0; place < 6; place++) {
                law.append(place == 0 ? "" : "|").append("h=").append(row.charAt(place));
                law.append("&e=").append(row.charAt((place + 5) % 6));
            }
            DreamGuard x = Check.fort("sn9;mn1e0;mn1e1b1;mn1e2b2;mn1e3b3;mn1e4b4;mn1e5b5");
            Check.addLaw(x, law + "?0;y:9");
            edges.row("ring by " + law, new int[] {x.ring(0), x.ring(1)}, digits, 0);
            x.swap(1, 5);
            x.swap(2, 3);
            edges.same("ring, whatever it is now", x.ring(0), digits);
            Check.addLaw(x, "y:h=0?9;" + law + "?0;y:9");
            edges.row("ring with a NIGHTMARE by each row", new int[] {x.ring(0), x.ring(1)}, digits, 1);
        }
    }

    private void bestBed() {
        edges.sentence("BED of a MAN: by which he would have the least DREAMT in a NIGHT (0 .. HOURS - 1; of several the least): "
            + "that; how much.");
        for (int hours = 4; hours <= 10; hours++) {
            DreamGuard x = Check.fort("sh" + hours + "n20;mn2;mn0");
            Check.addLaw(x, "y:3");
            edges.row("best of " + hours, new int[] {x.best(0, 0), x.best(0, 1)}, hours - 1, 3);
            Check.addLaw(x, "y:h=0?1;y:3");
            edges.row("best, not the first", new int[] {x.best(0, 0), x.best(0, 1)}, hours - 1, 3);
            Check.addLaw(x, "y:h<2?1;y:3");
            edges.row("best, the first", new int[] {x.best(0, 0), x.best(0, 1)}, 0, 2);
            Check.addLaw(x, "y:0");
            edges.row("best, of several the least", new int[] {x.best(0, 0), x.best(0, 1)}, 0, 0);
            edges.row("best of one who NEEDS none", new int[] {x.best(1, 0), x.best(1, 1)}, 0, 0);
        }
        DreamGuard deep = Check.fort("sh10n20;mn10;mn10");
        Check.addLaw(deep, "y:20");
        deep.nights(60);
        edges.row("DREAMT of one NIGHT alone", new int[] {deep.best(0, 0), deep.best(0, 1)}, 1, 20);
        edges.same("BED stays", deep.man(0, 3), 0);
    }

    private void seenTen() {
        edges.sentence("SEEN (10 at most)");
        DreamGuard x = Check.fort("mn1d3e0;mn1d3e0b1");
        edges.same("SEEN at first", x.count(8), 0);
        for (int k = 1; k <= 9; k++) {
            edges.same("seen", x.seen(1, 9, false), k);
        }
        edges.same("who(4, NONE)", x.who(4, NONE), 3);
        edges.same("a tenth", x.seen(1, 1, true), 10);
        edges.same("who(4, NONE) by the tenth", x.who(4, NONE), 1);
        edges.same("an eleventh", x.seen(0, 0, true), NONE);
        edges.same("SEEN", x.count(8), 10);
        edges.same("who(4, NONE) without it", x.who(4, NONE), 1);
        edges.same("who(4, 0)", x.who(4, 0), 1);
    }

    private void seenHours() {
        edges.sentence("in the first NIGHT of the FORT as told a MAN was WOKEN in an HOUR (0 .. 9), or was not.");
        DreamGuard x = Check.fort("sh4;mn1d3e0;mn1d3e0b3");
        edges.same("HOUR -1", x.seen(0, -1, false), NONE);
        edges.same("HOUR 10", x.seen(0, 10, false), NONE);
        edges.same("HOUR 11", x.seen(0, 11, false), NONE);
        edges.same("the greatest HOUR", x.seen(0, Integer.MAX_VALUE, false), NONE);
        edges.same("the least HOUR", x.seen(0, Integer.MIN_VALUE, false), NONE);
        for (int hour = 0; hour <= 9; hour++) {
            edges.same("HOUR " + hour, x.seen(1, hour, hour == 3), hour + 1);
        }
        edges.same("who(4, NONE)", x.who(4, NONE), 1);
        DreamGuard beyond = Check.fort("sh4;mn1d3e0;mn1d3e0b3");
        beyond.seen(1, 4, true);
        edges.same("WOKEN beyond the NIGHT", beyond.who(4, NONE), 0);
        DreamGuard told = Check.fort("mn1d3e0;mn1d3e0b1");
        told.seen(1, 1, true);
        told.dull(1);
        told.bed(1, 5);
        told.train(0);
        told.train(0);
        told.nights(4);
        told.swap(0, 1);
        edges.row("as told", new int[] {told.who(4, NONE), told.who(4, 0)}, 1, 1);
        Check.addLaw(told, "y:n+7");
        edges.same("NIGHT 0 is the first", told.who(1, NONE), 3);
        Check.addLaw(told, "y:n*7");
        edges.same("NIGHT 0 is the first", told.who(1, NONE), 0);
    }

    private void whoGrowth() {
        edges.sentence("WHO for g (1 .. 9)");
        DreamGuard x = Check.fort("sn10;mn1d1e0;mn0e0");
        x.seen(0, 0, true);
        edges.same("who(0, NONE)", x.who(0, NONE), NONE);
        edges.same("who(10, NONE)", x.who(10, NONE), NONE);
        edges.same("who(-1, NONE)", x.who(-1, NONE), NONE);
        for (int g = 1; g <= 8; g++) {
            edges.same("who(" + g + ", NONE)", x.who(g, NONE), 0);
        }
        edges.same("who(9, NONE)", x.who(9, NONE), 1);
        DreamGuard y = Check.fort("sn2;mn1d1e0;mn0e0");
        y.seen(0, 0, true);
        edges.same("who(1, NONE)", y.who(1, NONE), 1);
    }

    private void whoAboveNine() {
        edges.sentence("MEN of whom DREAMS were told g more (above 9, too) by which all SEEN is so, and 9, if it is so with none: "
            + "how many, the i-th (rising).");
        DreamGuard x = Check.fort("sn18;mn1d9e0;mn0e0");
        x.seen(0, 0, true);
        edges.same("17 of 18", x.who(8, NONE), 0);
        edges.same("18 of 18", x.who(9, NONE), 1);
        DreamGuard nine = Check.fort("sn10;mn1d9e0;mn0e0");
        nine.seen(0, 0, true);
        edges.same("10 of 10", nine.who(1, NONE), 1);
        DreamGuard none = Check.fort("sn3;mn1d3e0;mn0e0");
        none.seen(0, 0, true);
        edges.row("with none, too", new int[] {none.who(1, NONE), none.who(1, 0), none.who(1, 1), none.who(1, 2), none.who(1, 3)},
            3, 0, 1, 9, NONE);
        DreamGuard all = Check.fort("sn9;mn1d3e0;mn1d3e0b1");
        all.seen(0, 0, true);
        all.seen(1, 1, true);
        edges.same("all that was SEEN", all.who(6, NONE), 0);
    }

    private void whoRising() {
        edges.promise(27, "WHO: how many (i NONE), the i-th. NONE: no such one, no FORT, out of bounds.");
        for (int men = 2; men <= 6; men++) {
            DreamGuard x = Check.fort("mn0" + ";mn0".repeat(men - 1));
            edges.same("who(1, NONE)", x.who(1, NONE), men + 1);
            for (int i = 0; i < men; i++) {
                edges.same("who(1, " + i + ")", x.who(1, i), i);
            }
            edges.same("who(1, the last)", x.who(1, men), 9);
            edges.same("who(1, one more)", x.who(1, men + 1), NONE);
            edges.same("who(1, -2)", x.who(1, -2), NONE);
            edges.same("who(1, greatest)", x.who(1, Integer.MAX_VALUE), NONE);
            edges.same("who(1, least)", x.who(1, Integer.MIN_VALUE), NONE);
        }
        edges.same("who(1, NONE) without a FORT", new DreamGuard().who(1, NONE), NONE);
    }

    private void look() {
        edges.sentence("LOOK for g: 10 times a MAN and an HOUR of the NIGHT for which WOKEN then and not are least apart in "
            + "number among these (of several the least).");
        DreamGuard x = Check.fort("mn1d3e0;mn1d3e0b1");
        edges.same("hourToAsk(4), of several the least", x.hourToAsk(4), 0);
        x.seen(0, 0, false);
        edges.same("hourToAsk(4), one and one", x.hourToAsk(4), 11);
        edges.same("hourToAsk(3), nobody is WOKEN", x.hourToAsk(3), 0);
        x.seen(1, 1, true);
        edges.same("hourToAsk(4) of one", x.hourToAsk(4), 0);
        edges.same("hourToAsk(3) of none", x.hourToAsk(3), NONE);
        DreamGuard last = Check.fort("sh4n9;mn0e0;mn1d8e0b3");
        last.seen(0, 0, false);
        edges.same("the last HOUR of the last MAN", last.hourToAsk(1), 13);
        DreamGuard wide = Check.fort("sh10n9;mn0;mn0;mn0;mn0;mn0e0;mn1d8e0b9");
        edges.same("the last of all", wide.hourToAsk(1), 59);
        edges.same("hourToAsk(0)", wide.hourToAsk(0), NONE);
        edges.same("hourToAsk(10)", wide.hourToAsk(10), NONE);
        DreamGuard more = Check.fort("sn9;mn1e0d0;mn1e0d8b1;mn1e0d0b2;mn1e0d8b3");
        Check.addLaw(more, "y:h=1&d=8?9;y:h=3&n=0&d=9?9;y:h=3&d=8?8");
        edges.same("one of five is nearer to half than none", more.hourToAsk(1), 11);
    }

    private void saidTen() {
        edges.sentence("SAID (10 at most)");
        DreamGuard x = Check.fort("m;m;m");
        edges.same("SAID at first", x.count(9), 0);
        for (int k = 1; k <= 9; k++) {
            edges.same("said", x.said(0, 2, false), k);
        }
        edges.same("liars()", x.liars(), 0);
        edges.same("a tenth", x.said(1, 2, true), 10);
        edges.same("liars() by the tenth", x.liars(), 2);
        edges.same("an eleventh", x.said(2, 0, true), NONE);
        edges.same("SAID", x.count(9), 10);
        edges.same("liars() without it", x.liars(), 2);
    }

    private void saidOfAnother() {
        edges.sentence("a MAN says of another one that he would be WOKEN in a NIGHT now, or would not.");
        DreamGuard x = Check.fort("sn3;mn1d3e0;mn1d2e0b1");
        x.said(1, 0, true);
        edges.same("it is so", x.liars(), 0);
        x.said(0, 1, true);
        edges.same("it is not", x.liars(), 1);
        x.dull(0);
        edges.same("not so any more", x.liars(), 3);
        DreamGuard y = Check.fort("sn3;mn1d3e0;mn1d2e0b1");
        y.said(1, 0, false);
        y.said(0, 1, false);
        edges.same("would not", y.liars(), 2);
    }

    private void liars() {
        edges.sentence("LIARS: MEN (bits) who SAID something that is not so.");
        DreamGuard x = Check.fort("sn1;mn1;mn1b1;mn1b2;mn1b3;mn1b4;mn1b5");
        edges.same("all are WOKEN", x.night(3), 63);
        edges.same("liars() of nothing SAID", x.liars(), 0);
        for (int man = 0; man < 6; man++) {
            x.said(man, (man + 1) % 6, false);
            edges.same("liars()", x.liars(), (2 << man) - 1);
        }
        x.said(0, 1, true);
        edges.same("once is enough", x.liars(), 63);
        Check.addLaw(x, "y:0");
        edges.same("of a NIGHT now", x.liars(), 1);
    }

    private void gameMoves() {
        edges.sentence("GAME of two MEN: x, y (0 .. 3) how much more EYES each has (above 9, too)");
        DreamGuard x = Check.fort("sn6;mn0e9;mn1d9");
        Check.addLaw(x, "y:18-e");
        int[] gains = {6, 5, 4, 3};
        for (int move = 0; move <= 3; move++) {
            edges.same("EYES " + (9 + move), x.game(0, 1, move, 0, 0), gains[move]);
            edges.same("the other", x.game(0, 1, 0, move, 1), 8 - move);
        }
        Check.addLaw(x, "y:17-e");
        edges.same("EYES 12, no NIGHTMARE", x.game(0, 1, 3, 0, 0), 5);
        edges.same("EYES 11", x.game(0, 1, 2, 0, 0), 4);
        edges.same("x -1", x.game(0, 1, -1, 0, 0), HIDDEN);
        edges.same("x 4", x.game(0, 1, 4, 0, 0), HIDDEN);
        edges.same("y -1", x.game(0, 1, 0, -1, 0), HIDDEN);
        edges.same("y 4", x.game(0, 1, 0, 4, 0), HIDDEN);
        edges.same("x 5", x.game(0, 1, 5, 0, 0), HIDDEN);
        edges.same("y 5", x.game(0, 1, 0, 5, 0), HIDDEN);
        edges.same("EYES stay", x.man(0, 2), 9);
    }

    private void gameGains() {
        edges.sentence("what one has: 8, less 2 for each NIGHTMARE of the one whom he watches, less x (y).");
        DreamGuard none = Check.fort("mn0;mn0;mn0");
        edges.same("none", none.game(0, 2, 0, 0, 0), 8);
        edges.same("none, less x", none.game(0, 2, 3, 1, 0), 5);
        edges.same("none, less y", none.game(0, 2, 3, 1, 1), 7);
        DreamGuard most = Check.fort("sh10n1;mn10d9;mn10d9");
        edges.same("ten", most.game(0, 1, 0, 0, 0), -12);
        edges.same("ten, less x", most.game(0, 1, 3, 0, 0), -15);
        edges.same("ten, less y", most.game(1, 0, 0, 2, 1), -14);
        DreamGuard three = Check.fort("sn1;mn1d9b0;mn3d9b1;mn0;mn1d9b7");
        edges.same("0 watches 1", three.game(0, 1, 0, 0, 0), 6);
        edges.same("1 watches 2", three.game(0, 1, 0, 0, 1), 8);
        edges.same("3 watches 0", three.game(3, 1, 0, 0, 0), 6);
    }

    private void rests() {
        edges.sentence("RESTS: 10 times x and y by which neither has more by another of his own: how many, the i-th (rising).");
        DreamGuard none = Check.fort("mn0;mn0");
        edges.row("no NIGHTMARES", new int[] {none.rests(0, 1, NONE), none.rests(0, 1, 0), none.rests(0, 1, 1)}, 1, 0, NONE);
        DreamGuard even = Check.fort("sn5;mn1d5e0;mn1d6e0b1");
        edges.row("as much by another is not more", new int[] {even.rests(0, 1, NONE), even.rests(0, 1, 0),
            even.rests(0, 1, 1), even.rests(0, 1, 2)}, 2, 0, 2, NONE);
        edges.row("turned round", new int[] {even.rests(1, 0, NONE), even.rests(1, 0, 0), even.rests(1, 0, 1)}, 2, 0, 20);
        DreamGuard four = Check.fort("sn5;mn1d5e0;mn1d5e0b1");
        edges.row("2 each or none", new int[] {four.rests(0, 1, NONE), four.rests(0, 1, 0), four.rests(0, 1, 1),
            four.rests(0, 1, 2), four.rests(0, 1, 3), four.rests(0, 1, 4)}, 4, 0, 2, 20, 22, NONE);
        DreamGuard high = Check.fort("sn5;mn1;mn1b1");
        Check.addLaw(high, "y:e<8?20;y:0");
        edges.row("3 cost more than they bring", new int[] {high.rests(0, 1, NONE), high.rests(0, 1, 0)}, 1, 0);
        high.train(0);
        high.train(1);
        high.train(0);
        high.train(1);
        edges.row("1 each", new int[] {high.rests(0, 1, NONE), high.rests(0, 1, 0)}, 1, 11);
        edges.same("i -2", high.rests(0, 1, -2), NONE);
        edges.same("i greatest", high.rests(0, 1, Integer.MAX_VALUE), NONE);
    }

    private void restsByGames() {
        edges.sentence("by which neither has more by another of his own");
        String[] laws = {"y:e>6?0;y:e>5?9-d;y:d", "y:e/2*2=e?20;y:0", "y:h*e-d", "y:[e-3]*[e-4]", "y:i*e/2", "y:d+i-e/2"};
        for (String law : laws) {
            for (int one = 0; one < 3; one++) {
                restsAre(law, one, (one + 1) % 3);
                restsAre(law, (one + 1) % 3, one);
            }
        }
    }

    private void restsAre(String law, int one, int other) {
        DreamGuard x = Check.fort("sh6n4;mn3d5e4;mn4d6e3b2;mn2d4e5b4");
        Check.addLaw(x, law);
        int count = 0;
        for (int moves = 0; moves < 16; moves++) {
            int a = moves / 4;
            int b = moves % 4;
            boolean isRest = true;
            for (int move = 0; move < 4; move++) {
                isRest &= x.game(one, other, move, b, 0) <= x.game(one, other, a, b, 0);
                isRest &= x.game(one, other, a, move, 1) <= x.game(one, other, a, b, 1);
            }
            if (isRest) {
                edges.same("rests of " + one + " and " + other + " by " + law, x.rests(one, other, count), 10 * a + b);
                count++;
            }
        }
        edges.same("rests of " + one + " and " + other + " by " + law, x.rests(one, other, NONE), count);
        edges.same("one more", x.rests(one, other, count), NONE);
    }

    private void odds() {
        edges.sentence("ODDS for a chance (0 .. 100): each time the GATE would be opened in a NIGHT now it is by chance, each by "
            + "itself: of 10 to the 9 parts those by which it stays shut (chance by 100 of what is left, cut).");
        DreamGuard x = Check.fort("sn3;mn3;mn3");
        edges.same("GATE", x.night(1), 6);
        edges.same("odds(-1)", x.odds(-1), NONE);
        edges.same("odds(0)", x.odds(0), 1000000000);
        edges.same("odds(1)", x.odds(1), 941480150);
        edges.same("odds(33)", x.odds(33), 90458383);
        edges.same("odds(50)", x.odds(50), 15625000);
        edges.same("odds(99)", x.odds(99), 1);
        edges.same("odds(100)", x.odds(100), 0);
        edges.same("odds(101)", x.odds(101), NONE);
        edges.same("odds(50) at first", Check.fort("sn3;mn3;mn3").odds(50), 15625000);
        DreamGuard shut = Check.fort("mn0;mn0");
        edges.same("odds(0), nobody opens it", shut.odds(0), 1000000000);
        edges.same("odds(100), nobody opens it", shut.odds(100), 1000000000);
        DreamGuard one = Check.fort("sn3;mn1;mn1");
        Check.addLaw(one, "y:e=5&d=3?3");
        one.dull(0);
        edges.same("GATE", one.night(1), 1);
        edges.same("odds(1) of one", one.odds(1), 990000000);
        edges.same("odds(100) of one", one.odds(100), 0);
        DreamGuard sixty = Check.fort("sh10n1;mn10d9;mn10d9;mn10d9;mn10d9;mn10d9;mn10d9");
        edges.same("GATE", sixty.night(1), 60);
        long left = 1000000000;
        for (int k = 0; k < 60; k++) {
            left -= left * 7 / 100;
        }
        edges.same("odds(7) of sixty", sixty.odds(7), left);
    }

    private void shares() {
        edges.sentence("SHARES of c (0 .. 999): for a MAN c times his EYES by all, cut (all 0: 0).");
        DreamGuard x = Check.fort("me2;me9;me0");
        edges.same("shares(1, -1)", x.shares(1, -1), NONE);
        edges.same("shares(1, 0)", x.shares(1, 0), 0);
        edges.same("shares(1, 1), cut", x.shares(1, 1), 0);
        edges.same("shares(1, 2)", x.shares(1, 2), 1);
        edges.same("shares(1, 11)", x.shares(1, 11), 9);
        edges.same("shares(1, 999)", x.shares(1, 999), 817);
        edges.same("shares(0, 999)", x.shares(0, 999), 181);
        edges.same("shares(2, 999)", x.shares(2, 999), 0);
        edges.same("shares(1, 1000)", x.shares(1, 1000), NONE);
        DreamGuard none = Check.fort("me0;me0");
        edges.same("shares of no EYES", none.shares(0, 999), 0);
        none.train(1);
        edges.same("shares of one", none.shares(1, 999), 999);
        edges.same("shares of the other", none.shares(0, 999), 0);
        DreamGuard six = Check.fort("me9;me9;me9;me9;me9;me9");
        edges.same("shares of six", six.shares(5, 999), 166);
    }

    private void ofSeveralTheLowest() {
        edges.sentence("TIREDEST: the MAN; SOUNDEST: with the least DREAMT; KEENEST by EYES (of several the lowest, all).");
        DreamGuard x = Check.fort("sc99n20;mn0;mn2b7e4;mn2b7e6;mn0e6;mn2b7e6;mn2b7d9e0");
        edges.row("all alike, but for EYES", new int[] {x.most(0), x.most(1), x.most(2)}, 0, 0, 2);
        x.train(5);
        x.nights(1);
        edges.row("TIRED", View.men(x, 4), 0, 1, 1, 0, 1, 1);
        edges.same("TIREDEST", x.most(0), 1);
        edges.same("SOUNDEST", x.most(1), 0);
        x.train(3);
        edges.same("KEENEST", x.most(2), 3);
        x.train(0);
        x.train(0);
        edges.same("KEENEST", x.most(2), 0);
        DreamGuard last = Check.fort("mn1d9;mn1b1;mn2b7;mn0d0e9");
        last.nights(1);
        edges.row("of the last ones", new int[] {last.most(0), last.most(1), last.most(2)}, 2, 3, 3);
    }

    private void watcherAndAwake() {
        edges.sentence("WATCHER of a MAN. AWAKE in an HOUR: MEN (bits) who do not SLEEP in it (of a NIGHT now).");
        DreamGuard x = Check.fort("sh4n1;mn4d9;mn4b1;mn0;mn1b3;mn0;mn4d2e0");
        edges.row("watcher(..)", new int[] {x.watcher(0), x.watcher(1), x.watcher(5)}, 5, 0, 4);
        edges.row("awake(..)", new int[] {x.awake(0), x.awake(1), x.awake(2), x.awake(3)}, 30, 28, 60, 53);
    }

    private void fewest() {
        edges.sentence("FEWEST: the HOUR with the fewest of these (of several the first).");
        edges.same("nobody sleeps", Check.fort("mn0;mn0").night(4), 0);
        edges.same("all sleep in the last HOUR", Check.fort("mn1b7;mn1b7").night(4), 7);
        edges.same("all sleep in all", Check.fort("mn8;mn8").night(4), 0);
        edges.same("of several the first", Check.fort("mn2b2;mn2b5").night(4), 2);
        edges.same("one of six", Check.fort("mn0;mn0;mn0;mn1b3;mn0;mn0").night(4), 3);
        edges.same("two of six", Check.fort("mn0;mn1b4;mn0;mn2b3;mn0;mn0").night(4), 4);
        edges.same("of several the first", Check.fort("sh10;mn9d0;mn1d0b9;mn1d0b8").night(4), 8);
        DreamGuard x = Check.fort("sn1;mn8;mn0;mn1b1;mn0");
        edges.same("who is WOKEN is awake", x.night(4), 0);
        edges.same("AWAKE", x.awake(1), 11);
    }

    private void rested() {
        edges.sentence("RESTED in how many NIGHTS (0 .. 60): nobody is TIRED then.");
        DreamGuard x = Check.fort("mn2b6d0;mn0");
        edges.same("RESTED now", x.most(3), 0);
        x.bed(0, 7);
        edges.same("RESTED now, too", x.most(3), 0);
        x.nights(1);
        edges.same("never", x.most(3), NONE);
        x.bed(0, 6);
        edges.same("RESTED in one", x.most(3), 1);
        x.bed(0, 7);
        x.nights(58);
        x.bed(0, 6);
        edges.same("RESTED in 59", x.most(3), 59);
        x.bed(0, 7);
        x.nights(1);
        x.bed(0, 6);
        edges.same("RESTED in 60", x.most(3), 60);
        x.bed(0, 7);
        x.nights(1);
        x.bed(0, 6);
        edges.same("not within 60", x.most(3), NONE);
        x.nights(1);
        edges.same("RESTED in 60", x.most(3), 60);
        edges.same("NIGHT", x.count(4), 62);
    }

    private void spare() {
        edges.sentence("SPARE of a MAN: HOURS of the NIGHT that he does not NEED.");
        for (int hours = 4; hours <= 10; hours++) {
            DreamGuard x = Check.fort("sh" + hours + ";mn0;mn" + hours + ";m");
            edges.row("spare", new int[] {x.spare(0), x.spare(1), x.spare(2), x.spare(3), x.spare(-1)},
                hours, 0, hours - 3, NONE, NONE);
            x.bed(2, hours - 1);
            edges.same("spare, whatever his BED is", x.spare(2), hours - 3);
        }
    }
}
