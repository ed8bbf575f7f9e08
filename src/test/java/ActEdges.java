/** The edges of what is done by hand, of undoing it, and of STATUS. */
final class ActEdges {
    private static final int NONE = Edges.NONE;
    private final Edges edges;

    ActEdges(Edges edges) {
        this.edges = edges;
    }

    void run() {
        bed();
        train();
        dull();
        swap();
        nights();
        latestForty();
        eachSort();
        logToo();
        noSuch();
        outOfBounds();
        itIsSo();
        tooFewCoins();
        beyondTheLastNight();
        theFirstOfSeveral();
        notUndone();
    }

    private void bed() {
        edges.sentence("a BED is set (0 .. HOURS - 1)");
        for (int hours = 4; hours <= 10; hours++) {
            DreamGuard x = Check.fort("sh" + hours + "c0;mb1;m");
            int was = 1;
            for (int hour = hours - 1; hour >= 0; hour--) {
                int due = hour == was ? NONE : was;
                edges.same("bed(0, " + hour + ") of " + hours, x.bed(0, hour), due);
                edges.same("BED", x.man(0, 3), hour);
                was = hour;
            }
            edges.same("bed(0, -1)", x.bed(0, -1), NONE);
            edges.same("bed(0, HOURS)", x.bed(0, hours), NONE);
            edges.same("bed(0, HOURS + 1)", x.bed(0, hours + 1), NONE);
            edges.same("BED", x.man(0, 3), 0);
            edges.status(x, 0, 3, 0, 0, 0);
            edges.same("ACTS", x.count(11), hours);
        }
        DreamGuard y = Check.fort("sh4;mn4;m");
        edges.same("a BED by which he lacks what he NEEDS", y.bed(0, 3), 0);
    }

    private void train() {
        edges.sentence("EYES are trained (one more, 9 at most; 2 COINS)");
        DreamGuard x = Check.fort("sc99;me0;m");
        for (int eyes = 1; eyes <= 9; eyes++) {
            edges.same("train(0)", x.train(0), eyes);
            edges.same("EYES", x.man(0, 2), eyes);
            edges.same("COINS", x.rule(2), 99 - 2 * eyes);
        }
        edges.same("train(0) with nine", x.train(0), NONE);
        edges.same("EYES", x.man(0, 2), 9);
        edges.same("COINS", x.rule(2), 81);
        edges.same("EYES of the other", x.man(1, 2), 5);
        edges.same("train(0) with 3 COINS", Check.fort("sc3;m;m").train(0), 6);
        DreamGuard two = Check.fort("sc2;m;m");
        edges.same("train(0) with 2 COINS", two.train(0), 6);
        edges.same("COINS", two.rule(2), 0);
        DreamGuard one = Check.fort("sc1;m;m");
        edges.same("train(0) with a COIN", one.train(0), NONE);
        edges.same("COINS", one.rule(2), 1);
        edges.status(one, 0, 0, 0, 1, 0);
        edges.same("train(0) with none", Check.fort("sc0;m;m").train(0), NONE);
    }

    private void dull() {
        edges.sentence("DREAMS are dulled (one less, 0 at least; 3 COINS)");
        DreamGuard x = Check.fort("sc99;md9;m");
        for (int dreams = 8; dreams >= 0; dreams--) {
            edges.same("dull(0)", x.dull(0), dreams);
            edges.same("DREAMS", x.man(0, 1), dreams);
            edges.same("COINS", x.rule(2), 99 - 3 * (9 - dreams));
        }
        edges.same("dull(0) with none", x.dull(0), NONE);
        edges.same("DREAMS", x.man(0, 1), 0);
        edges.same("COINS", x.rule(2), 72);
        edges.same("DREAMS of the other", x.man(1, 1), 3);
        edges.same("dull(0) with 4 COINS", Check.fort("sc4;m;m").dull(0), 2);
        DreamGuard three = Check.fort("sc3;m;m");
        edges.same("dull(0) with 3 COINS", three.dull(0), 2);
        edges.same("COINS", three.rule(2), 0);
        DreamGuard two = Check.fort("sc2;m;m");
        edges.same("dull(0) with 2 COINS", two.dull(0), NONE);
        edges.same("COINS", two.rule(2), 2);
        edges.status(two, 0, 0, 0, 1, 0);
        edges.same("dull(0) with none", Check.fort("sc0;m;m").dull(0), NONE);
    }

    private void swap() {
        edges.sentence("two change their PLACES (a COIN).");
        DreamGuard x = Check.fort("sc2;m;m;m;m;m;m");
        edges.same("swap(0, 5)", x.swap(0, 5), 5);
        edges.row("PLACES", View.men(x, 6), 5, 1, 2, 3, 4, 0);
        edges.same("COINS", x.rule(2), 1);
        edges.same("swap(1, 0)", x.swap(1, 0), 5);
        edges.row("PLACES", View.men(x, 6), 1, 5, 2, 3, 4, 0);
        edges.same("COINS", x.rule(2), 0);
        edges.same("swap(1, 0) without a COIN", x.swap(1, 0), NONE);
        edges.row("PLACES", View.men(x, 6), 1, 5, 2, 3, 4, 0);
        edges.status(x, 0, 0, 0, 1, 0);
        DreamGuard two = Check.fort("sc1;m;m");
        edges.same("swap(1, 0) of two", two.swap(1, 0), 0);
        edges.row("PLACES", View.men(two, 6), 1, 0);
    }

    private void nights() {
        edges.promise(13, "NIGHTS (1 .. 60): the NIGHT.");
        DreamGuard x = Check.fort("m;m");
        edges.same("nights(0)", x.nights(0), NONE);
        edges.same("nights(61)", x.nights(61), NONE);
        edges.same("NIGHT", x.count(4), 0);
        edges.status(x, 0, 2, 0, 0, 0);
        edges.same("nights(1)", x.nights(1), 1);
        edges.same("nights(60)", x.nights(60), 61);
        edges.same("nights(59)", x.nights(59), 120);
    }

    private void latestForty() {
        edges.sentence("All these (each NIGHT) are ACTS: the latest 40 can be UNDONE one by one (LOG, too).");
        for (int acts = 38; acts <= 42; acts++) {
            DreamGuard x = Check.fort("sh10;m;m");
            for (int act = 1; act <= acts; act++) {
                x.bed(0, act % 10);
                edges.same("ACTS", x.count(11), Math.min(40, act));
            }
            int can = Math.min(40, acts);
            for (int left = can - 1; left >= 0; left--) {
                edges.same("undo() of " + acts, x.undo(), left);
                edges.same("ACTS", x.count(11), left);
                edges.same("BED", x.man(0, 3), (acts - can + left) % 10);
            }
            edges.same("undo() of no more", x.undo(), NONE);
            edges.same("BED", x.man(0, 3), (acts - can) % 10);
            edges.same("an ACT again", x.bed(1, 1), 0);
            edges.same("ACTS", x.count(11), 1);
        }
        DreamGuard nights = Check.fort("m;m");
        nights.nights(39);
        edges.same("ACTS of 39 NIGHTS", nights.count(11), 39);
        nights.nights(60);
        edges.same("ACTS of 99 NIGHTS", nights.count(11), 40);
        edges.same("undo()", nights.undo(), 39);
        edges.same("NIGHT", nights.count(4), 98);
        for (int k = 0; k < 39; k++) {
            nights.undo();
        }
        edges.same("NIGHT", nights.count(4), 59);
        edges.same("undo() of no more", nights.undo(), NONE);
    }

    private void eachSort() {
        edges.sentence("the latest 40 can be UNDONE one by one");
        for (int act = 0; act < 6; act++) {
            DreamGuard x = withActs(act + 1);
            edges.same("ACTS", x.count(11), act + 1);
            edges.same("undo()", x.undo(), act);
            edges.holds("all is as ahead of act " + act, View.of(x).equals(View.of(withActs(act))));
        }
    }

    private static DreamGuard withActs(int acts) {
        DreamGuard x = Check.fort("sn3c9;mn2e8d4;mb1n5;m");
        for (int act = 0; act < acts; act++) {
            switch (act) {
                case 0 -> x.bed(1, 4);
                case 1 -> x.train(0);
                case 2 -> x.dull(0);
                case 3 -> x.swap(0, 1);
                case 4 -> x.nights(1);
                default -> x.years(1, 6);
            }
        }
        return x;
    }

    private void logToo() {
        edges.sentence("(LOG, too)");
        DreamGuard x = Check.fort("sh10n20;mn10;mn10");
        Check.addLaw(x, "y:n-n/7*7>h?20");
        x.nights(60);
        edges.same("the oldest", x.log(59, 2), 0);
        x.nights(40);
        edges.same("the oldest", x.log(59, 2), 2 * (40 % 7));
        for (int left = 39; left >= 0; left--) {
            edges.same("undo()", x.undo(), left);
            int nights = 60 + left;
            edges.same("LOG", x.count(10), 60);
            edges.same("the latest", x.log(0, 2), 2 * ((nights - 1) % 7));
            edges.same("the oldest", x.log(59, 2), 2 * ((nights - 60) % 7));
        }
    }

    private void noSuch() {
        edges.sentence("STATUS: how many ACTS were refused as there was no such one (0)");
        DreamGuard none = new DreamGuard();
        none.bed(0, 0);
        edges.status(none, 1, 0, 0, 0, 0);
        none.train(0);
        edges.status(none, 2, 0, 0, 0, 0);
        none.dull(0);
        edges.status(none, 3, 0, 0, 0, 0);
        none.swap(0, 1);
        edges.status(none, 4, 0, 0, 0, 0);
        none.nights(1);
        edges.status(none, 5, 0, 0, 0, 0);
        for (int men = 2; men <= 6; men++) {
            DreamGuard x = Check.fort("m" + ";m".repeat(men - 1));
            edges.same("bed", x.bed(men, 1), NONE);
            edges.same("bed", x.bed(-1, 1), NONE);
            edges.status(x, 2, 0, 0, 0, 0);
            edges.same("train", x.train(men), NONE);
            edges.same("train", x.train(-1), NONE);
            edges.status(x, 4, 0, 0, 0, 0);
            edges.same("dull", x.dull(men), NONE);
            edges.same("dull", x.dull(-1), NONE);
            edges.status(x, 6, 0, 0, 0, 0);
            edges.same("swap", x.swap(men, 0), NONE);
            edges.same("swap", x.swap(0, men), NONE);
            edges.same("swap", x.swap(-1, 0), NONE);
            edges.same("swap", x.swap(0, -1), NONE);
            edges.status(x, 10, 0, 0, 0, 0);
            edges.same("bed of the last", x.bed(men - 1, 1), 0);
            edges.same("train of the last", x.train(men - 1), 6);
            edges.same("dull of the last", x.dull(men - 1), 2);
            edges.same("swap of the last", x.swap(men - 1, 0), 0);
            edges.status(x, 10, 0, 0, 0, 0);
        }
    }

    private void outOfBounds() {
        edges.sentence("out of bounds, alike (1)");
        DreamGuard x = Check.fort("m;m");
        x.bed(0, 8);
        edges.status(x, 0, 1, 0, 0, 0);
        x.bed(0, -1);
        edges.status(x, 0, 2, 0, 0, 0);
        x.swap(1, 1);
        edges.status(x, 0, 3, 0, 0, 0);
        x.swap(0, 0);
        edges.status(x, 0, 4, 0, 0, 0);
        x.nights(0);
        edges.status(x, 0, 5, 0, 0, 0);
        x.nights(61);
        edges.status(x, 0, 6, 0, 0, 0);
        x.nights(Integer.MIN_VALUE);
        edges.status(x, 0, 7, 0, 0, 0);
        x.nights(Integer.MAX_VALUE);
        edges.status(x, 0, 8, 0, 0, 0);
        edges.same("ACTS", x.count(11), 0);
    }

    private void itIsSo() {
        edges.sentence("it is so, nine, none (2)");
        DreamGuard x = Check.fort("me9b3;md0");
        x.bed(0, 3);
        edges.status(x, 0, 0, 1, 0, 0);
        x.bed(1, 0);
        edges.status(x, 0, 0, 2, 0, 0);
        x.train(0);
        edges.status(x, 0, 0, 3, 0, 0);
        x.dull(1);
        edges.status(x, 0, 0, 4, 0, 0);
        edges.same("ACTS", x.count(11), 0);
    }

    private void tooFewCoins() {
        edges.sentence("too few COINS (3)");
        DreamGuard x = Check.fort("sc2;m;m");
        x.dull(0);
        edges.status(x, 0, 0, 0, 1, 0);
        x.swap(0, 1);
        edges.same("COINS", x.rule(2), 1);
        x.train(0);
        edges.status(x, 0, 0, 0, 2, 0);
        x.swap(0, 1);
        edges.same("COINS", x.rule(2), 0);
        x.swap(0, 1);
        edges.status(x, 0, 0, 0, 3, 0);
        edges.same("ACTS", x.count(11), 2);
    }

    private void beyondTheLastNight() {
        edges.sentence("beyond the last NIGHT (4)");
        DreamGuard x = Check.fort("m;m");
        for (int k = 0; k < 16; k++) {
            x.nights(60);
        }
        edges.same("nights(40) at 960", x.nights(40), NONE);
        edges.status(x, 0, 0, 0, 0, 1);
        edges.same("nights(60) at 960", x.nights(60), NONE);
        edges.status(x, 0, 0, 0, 0, 2);
        edges.same("NIGHT", x.count(4), 960);
        edges.same("years(40, 1) has no STATUS", x.years(40, 1), NONE);
        edges.status(x, 0, 0, 0, 0, 2);
        edges.same("nights(39) at 960", x.nights(39), 999);
        edges.same("nights(1) at 999", x.nights(1), NONE);
        edges.status(x, 0, 0, 0, 0, 3);
    }

    private void theFirstOfSeveral() {
        edges.sentence("of several the first; not UNDONE.");
        DreamGuard x = Check.fort("sc0;me9d0;m");
        x.bed(2, 99);
        edges.status(x, 1, 0, 0, 0, 0);
        x.swap(2, 2);
        edges.status(x, 2, 0, 0, 0, 0);
        x.swap(0, 2);
        edges.status(x, 3, 0, 0, 0, 0);
        x.train(2);
        edges.status(x, 4, 0, 0, 0, 0);
        x.dull(2);
        edges.status(x, 5, 0, 0, 0, 0);
        x.swap(1, 1);
        edges.status(x, 5, 1, 0, 0, 0);
        x.train(0);
        edges.status(x, 5, 1, 1, 0, 0);
        x.dull(0);
        edges.status(x, 5, 1, 2, 0, 0);
        DreamGuard none = new DreamGuard();
        none.nights(0);
        none.nights(1000);
        none.bed(0, -1);
        none.swap(0, 0);
        edges.status(none, 4, 0, 0, 0, 0);
        DreamGuard late = Check.fort("m;m");
        for (int k = 0; k < 16; k++) {
            late.nights(60);
        }
        late.nights(61);
        edges.status(late, 0, 1, 0, 0, 0);
    }

    private void notUndone() {
        edges.sentence("not UNDONE.");
        DreamGuard x = Check.fort("m;m");
        x.bed(0, 1);
        x.bed(0, 1);
        x.bed(0, 9);
        x.image();
        edges.same("undo()", x.undo(), 0);
        edges.status(x, 0, 1, 1, 0, 0);
        edges.same("back()", x.back(), 0);
        edges.status(x, 0, 1, 1, 0, 0);
        edges.same("undo() of none", x.undo(), NONE);
        edges.status(x, 0, 1, 1, 0, 0);
        Check.addFort(x, "m;m");
        edges.status(x, 0, 1, 1, 0, 0);
    }
}
