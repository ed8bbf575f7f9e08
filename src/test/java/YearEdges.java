import java.math.BigInteger;

/** The edges of YEARS, of their draws, and of IMAGES. */
final class YearEdges {
    private static final int NONE = Edges.NONE;
    private static final long[] SEEDS = {0, 1, -1, 42, 6364136223846793005L, Long.MAX_VALUE, Long.MIN_VALUE, -77777777777L};
    private final Edges edges;

    YearEdges(Edges edges) {
        this.edges = edges;
    }

    void run() {
        sixty();
        snow();
        noSnow();
        muchSnow();
        bedsAndPlaces();
        goingRound();
        forNothing();
        noStatus();
        oneAct();
        images();
        instead();
        constants();
    }

    /** Beds and places behind some nights, drawn with whole numbers of any size. */
    private static final class Draws {
        private static final BigInteger ROUND = BigInteger.ONE.shiftLeft(64);
        private static final BigInteger TIMES = new BigInteger("6364136223846793005");
        private static final BigInteger MORE = new BigInteger("1442695040888963407");
        private BigInteger x;
        final int[] beds;
        final int[] places;
        int changes = 0;
        int alike = 0;

        Draws(int men, int hours, int snow, int nights, long seed) {
            x = BigInteger.valueOf(seed).mod(ROUND);
            beds = new int[men];
            places = new int[men];
            for (int man = 0; man < men; man++) {
                places[man] = man;
            }
            for (int night = 0; night < nights; night++) {
                int man = draw(men);
                beds[man] = draw(hours);
                if (draw(10) < snow) {
                    change(draw(men), draw(men));
                }
            }
        }

        private int draw(int j) {
            x = x.multiply(TIMES).add(MORE).mod(ROUND);
            return x.shiftRight(33).mod(BigInteger.valueOf(j)).intValue();
        }

        private void change(int one, int other) {
            changes += one != other ? 1 : 0;
            alike += one == other ? 1 : 0;
            int place = places[one];
            places[one] = places[other];
            places[other] = place;
        }
    }

    private DreamGuard drawn(int men, int hours, int snow, int nights, long seed) {
        DreamGuard x = Check.fort("sh" + hours + "c0;mn0" + ";mn0".repeat(men - 1));
        edges.same("snow(" + snow + ")", x.snow(snow) ? 1 : 0, snow == 0 ? 0 : 1);
        edges.same("years(" + nights + ", " + seed + ")", x.years(nights, seed), nights);
        Draws draws = new Draws(men, hours, snow, nights, seed);
        edges.row("BEDS by " + seed, View.men(x, 3), draws.beds);
        edges.row("PLACES by " + seed, View.men(x, 6), draws.places);
        return x;
    }

    private void sixty() {
        edges.sentence("YEARS by a seed: n (1 .. 60) NIGHTS");
        DreamGuard x = Check.fort("m;m");
        edges.same("years(0, 1)", x.years(0, 1), NONE);
        edges.same("years(61, 1)", x.years(61, 1), NONE);
        edges.same("years(-1, 1)", x.years(-1, 1), NONE);
        edges.same("NIGHT", x.count(4), 0);
        edges.same("years(1, 1)", x.years(1, 1), 1);
        edges.same("years(60, 1)", x.years(60, 1), 61);
        edges.same("years(59, 1)", x.years(59, 1), 120);
    }

    private void snow() {
        edges.sentence("then a draw of 10 below SNOW (0 .. 9; 0 at first)");
        DreamGuard x = new DreamGuard();
        edges.same("SNOW at first", x.count(7), 0);
        edges.fails("snow(0), it is so", x.snow(0));
        edges.fails("snow(-1)", x.snow(-1));
        edges.fails("snow(10)", x.snow(10));
        for (int v = 1; v <= 9; v++) {
            edges.holds("snow", x.snow(v));
            edges.fails("snow, it is so", x.snow(v));
            edges.same("SNOW", x.count(7), v);
        }
        edges.fails("snow(10)", x.snow(10));
        edges.same("SNOW", x.count(7), 9);
        edges.holds("snow(0)", x.snow(0));
        edges.same("SNOW", x.count(7), 0);
    }

    private void noSnow() {
        edges.sentence("a draw of 10 below SNOW");
        for (long seed : SEEDS) {
            DreamGuard x = drawn(6, 10, 0, 60, seed);
            edges.row("PLACES without SNOW", View.men(x, 6), 0, 1, 2, 3, 4, 5);
        }
        for (int snow = 1; snow <= 9; snow++) {
            drawn(5, 9, snow, 60, snow);
        }
    }

    private void muchSnow() {
        edges.sentence("a draw of how many MEN, a draw of how many: these change their PLACES, if they are unlike (for nothing).");
        for (long seed : SEEDS) {
            drawn(2, 4, 9, 60, seed);
            Draws draws = new Draws(2, 4, 9, 60, seed);
            edges.holds("some are alike, some are not", draws.alike > 0 && draws.changes > 0);
        }
    }

    private void bedsAndPlaces() {
        edges.sentence("ahead of each: a draw of how many MEN there are, a draw of HOURS: his BED; ");
        for (int men = 2; men <= 6; men++) {
            for (int hours = 4; hours <= 10; hours++) {
                drawn(men, hours, 5, 30, 1000 * men + hours);
            }
        }
    }

    private void goingRound() {
        edges.sentence("x, at first the seed, becomes x times 6364136223846793005 and 1442695040888963407 (64 bits, going round); "
            + "a draw of j: (x shifted right by 33, without sign) modulo j.");
        for (long seed : SEEDS) {
            drawn(3, 7, 6, 1, seed);
            drawn(6, 10, 6, 20, seed);
        }
        DreamGuard x = drawn(6, 10, 6, 3, 42);
        edges.same("the seed counts anew", x.years(3, 42), 6);
        DreamGuard once = Check.fort("sh10c0;mn0;mn0;mn0;mn0;mn0;mn0");
        once.snow(6);
        once.years(6, 42);
        edges.fails("not the same as six at once", View.of(x).equals(View.of(once)));
    }

    private void forNothing() {
        edges.sentence("(for nothing)");
        DreamGuard x = drawn(6, 8, 9, 60, 5);
        edges.same("COINS", x.rule(2), 0);
        DreamGuard y = Check.fort("sc7;mn0;mn0");
        y.snow(9);
        y.years(60, 5);
        edges.same("COINS", y.rule(2), 7);
    }

    private void noStatus() {
        edges.sentence("No STATUS.");
        DreamGuard none = new DreamGuard();
        none.years(1, 1);
        none.years(0, 1);
        edges.status(none, 0, 0, 0, 0, 0);
        DreamGuard x = Check.fort("sc0;m;m");
        x.snow(9);
        x.years(0, 1);
        x.years(61, 1);
        for (int k = 0; k < 16; k++) {
            x.years(60, k);
        }
        x.years(60, 1);
        x.years(40, 1);
        edges.same("NIGHT", x.count(4), 960);
        edges.same("years(39, 1)", x.years(39, 1), 999);
        edges.same("years(1, 1)", x.years(1, 1), NONE);
        edges.status(x, 0, 0, 0, 0, 0);
    }

    private void oneAct() {
        edges.sentence("Each NIGHT with what is ahead of it is one ACT.");
        DreamGuard x = Check.fort("sh10c0;mn0;mn0;mn0");
        x.snow(9);
        x.years(7, 3);
        edges.same("ACTS", x.count(11), 7);
        for (int left = 6; left >= 0; left--) {
            edges.same("undo()", x.undo(), left);
            edges.same("NIGHT", x.count(4), left);
            Draws draws = new Draws(3, 10, 9, left, 3);
            edges.row("BEDS", View.men(x, 3), draws.beds);
            edges.row("PLACES", View.men(x, 6), draws.places);
        }
        x.years(60, 3);
        edges.same("ACTS", x.count(11), 40);
    }

    private static DreamGuard withImage() {
        DreamGuard x = Check.fort("sn3;mn2e8d4;mb1;mn3b7");
        x.nights(2);
        x.bed(1, 4);
        x.train(0);
        x.dull(1);
        x.swap(0, 2);
        x.image();
        return x;
    }

    private void images() {
        edges.sentence("An IMAGE keeps BEDS, EYES, DREAMS, TIRED, DREAMT, PLACES, COINS, how often the GATE was opened, the "
            + "NIGHT, the LOG; BACK: they are so again (no ACT can be UNDONE then).");
        DreamGuard x = withImage();
        edges.same("an IMAGE is no ACT", x.count(11), 6);
        x.nights(59);
        x.bed(0, 5);
        x.train(1);
        x.dull(0);
        x.swap(1, 2);
        x.years(4, 3);
        edges.same("ACTS", x.count(11), 40);
        edges.same("back()", x.back(), 2);
        edges.same("ACTS", x.count(11), 0);
        edges.same("undo()", x.undo(), NONE);
        java.util.List<String> rows = View.of(x);
        rows.remove("count(11) = 0");
        java.util.List<String> due = View.of(withImage());
        due.remove("count(11) = 6");
        for (int k = 0; k < due.size(); k++) {
            edges.holds("as it was: " + due.get(k), k < rows.size() && rows.get(k).equals(due.get(k)));
        }
        edges.same("as many", rows.size(), due.size());
        x.bed(0, 3);
        edges.same("an ACT again", x.count(11), 1);
        edges.same("undo() of it", x.undo(), 0);
        x.nights(3);
        edges.same("back() once more", x.back(), 2);
    }

    private void instead() {
        edges.promise(39, "An IMAGE (instead of the one ahead): the NIGHT. NONE: no FORT.");
        DreamGuard none = new DreamGuard();
        edges.same("image() without a FORT", none.image(), NONE);
        edges.same("back()", none.back(), NONE);
        DreamGuard x = Check.fort("m;m");
        edges.same("image()", x.image(), 0);
        x.nights(2);
        edges.same("image()", x.image(), 2);
        x.nights(2);
        edges.same("back() to the later one", x.back(), 2);
        edges.same("NIGHT", x.count(4), 2);
        x.undo();
        edges.same("back() to it again", x.back(), 2);
        edges.promise(40, "BACK: the NIGHT. NONE: no IMAGE of this FORT.");
        DreamGuard y = Check.fort("m;m");
        edges.same("back() without an IMAGE", y.back(), NONE);
        y.image();
        y.nights(1);
        edges.same("back()", y.back(), 0);
        Check.addFort(y, "m;m");
        edges.same("back() to another FORT's", y.back(), NONE);
        y.nights(1);
        edges.same("image()", y.image(), 1);
        edges.same("back()", y.back(), 1);
        Check.feed(y, "m");
        edges.same("no FORT is told", y.text(0), NONE);
        edges.same("back() still", y.back(), 1);
    }

    private void constants() {
        edges.sentence("The constants: `NONE = -1`: None; refused. `HIDDEN = -1000000`: Not told.");
        edges.same("NONE", DreamGuard.NONE, -1);
        edges.same("HIDDEN", DreamGuard.HIDDEN, -1000000);
    }
}
