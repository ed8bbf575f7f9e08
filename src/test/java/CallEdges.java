import java.util.List;
import java.util.function.Function;
import java.util.function.Supplier;
import java.util.function.ToLongFunction;

/** Each call that is refused: what it answers, which STATUS it counts, and that nothing else changes. */
final class CallEdges {
    private static final int NONE = Edges.NONE;
    private static final int HIDDEN = Edges.HIDDEN;
    private static final int UNCOUNTED = Edges.UNCOUNTED;
    private final Edges edges;
    private Supplier<DreamGuard> made = DreamGuard::new;

    CallEdges(Edges edges) {
        this.edges = edges;
    }

    void run() {
        tape();
        texts();
        anotherFort();
        asNow();
        laws();
        acts();
        nights();
        snowAndYears();
        undoAndLog();
        nightNow();
        searches();
        seenAndWho();
        saidAndLiars();
        games();
        oddsAndShares();
        ofMen();
        imagesAndCounts();
        newObject();
        lastCall();
    }

    /** The states in which calls are refused; the names say what is full, empty or missing in them. */
    private static DreamGuard busy() {
        DreamGuard x = Check.fort("sh6n5c19;mn2d4e6;md5e2b2;mn2d2e8b4");
        Check.addLaw(x, "y:d+i-e/2");
        Check.addLaw(x, "y:w=1?d;y:n+3");
        x.snow(4);
        x.nights(2);
        x.bed(1, 3);
        x.train(0);
        x.dull(1);
        x.swap(0, 2);
        x.image();
        x.years(2, 5);
        x.seen(0, 0, false);
        x.said(0, 1, true);
        x.said(2, 0, false);
        x.bed(9, 9);
        x.bed(0, 9);
        Check.feed(x, "m;mn3;");
        return x;
    }

    private static DreamGuard fortless() {
        DreamGuard x = new DreamGuard();
        Check.addLaw(x, "y:d+1");
        x.snow(7);
        x.train(0);
        Check.feed(x, "m;mn3;");
        return x;
    }

    private static DreamGuard poor() {
        DreamGuard x = Check.fort("sc0;mn1b7;mn1b7;mn1b7;mn1b7");
        x.nights(3);
        x.bed(0, 3);
        return x;
    }

    private static DreamGuard late() {
        DreamGuard x = Check.fort("m;m;m");
        for (int k = 0; k < 16; k++) {
            x.nights(60);
        }
        x.nights(38);
        x.image();
        x.nights(1);
        return x;
    }

    private static DreamGuard noted() {
        DreamGuard x = busy();
        while (x.count(8) < 10) {
            x.seen(1, x.count(8), false);
        }
        while (x.count(9) < 10) {
            x.said(1, 2, true);
        }
        return x;
    }

    private static DreamGuard withTape(int bytes) {
        DreamGuard x = busy();
        x.end(0);
        for (int k = 0; k < 12; k++) {
            x.feed(0x6d3b6d3b, 0x6d3b6d3b, 0x6d3b6d3b, 0x6d3b6d3b, 0x6d3b6d3b);
        }
        x.end(bytes);
        return x;
    }

    private static DreamGuard withFourLaws() {
        DreamGuard x = busy();
        Check.addLaw(x, "y:1");
        Check.addLaw(x, "y:2");
        Check.feed(x, "y:3");
        return x;
    }

    private void in(Supplier<DreamGuard> state) {
        made = state;
    }

    private void refused(String call, ToLongFunction<DreamGuard> question, long due, int status) {
        DreamGuard x = made.get();
        int[] counted = View.status(x);
        if (status != UNCOUNTED) {
            counted[status]++;
        }
        edges.same(call, question.applyAsLong(x), due);
        edges.row("STATUS behind " + call, View.status(x), counted);
        alike(call, question, View::of);
        alike(call, question, View::undone);
        alike(call, question, View::broughtBack);
        alike(call, question, View::cut);
    }

    private void alike(String call, ToLongFunction<DreamGuard> question, Function<DreamGuard, List<String>> view) {
        DreamGuard x = made.get();
        question.applyAsLong(x);
        List<String> rows = view.apply(x);
        List<String> due = view.apply(made.get());
        edges.same(call + " changes nothing that is told", rows.size(), due.size());
        for (int k = 0; k < rows.size() && k < due.size(); k++) {
            if (!rows.get(k).equals(due.get(k))) {
                edges.holds(call + " changes " + due.get(k) + " to " + rows.get(k), false);
            }
        }
    }

    private void none(String call, ToLongFunction<DreamGuard> question) {
        refused(call, question, NONE, UNCOUNTED);
    }

    private void hidden(String call, ToLongFunction<DreamGuard> question) {
        refused(call, question, HIDDEN, UNCOUNTED);
    }

    private void counted(int status, String call, ToLongFunction<DreamGuard> question) {
        refused(call, question, NONE, status);
    }

    private void tape() {
        edges.promise(2, "Twenty bytes more come to the TAPE (of each number the highest first; bytes of 0 are left out): how many "
            + "it has.");
        DreamGuard x = new DreamGuard();
        edges.same("feed of no bytes", x.feed(0, 0, 0, 0, 0), 0);
        edges.same("feed of m;m", x.feed(0x6d3b6d00, 0, 0, 0, 0), 3);
        edges.same("fault(0)", x.fault(0), NONE);
        edges.same("feed of ;md7 with 0 between", x.feed(0x003b0000, 0x0000006d, 0, 0x64000000, 0x00003700), 7);
        edges.same("text(0)", x.text(0), 3);
        edges.same("DREAMS", x.man(2, 1), 7);
        edges.same("feed of bytes above 127", x.feed(-1, 0x80808080, 0, 0, -1), 12);
        edges.same("fault(0)", x.fault(0), 0);
        edges.promise(2, "NONE: more than 240.");
        for (int bytes = 220; bytes <= 240; bytes++) {
            DreamGuard y = withTape(bytes);
            edges.same("feed of all that has room", y.feed(ones(0, bytes), ones(1, bytes), ones(2, bytes), ones(3, bytes),
                ones(4, bytes)), 240);
            if (bytes > 220) {
                int has = bytes;
                in(() -> withTape(has));
                none("feed of one too many", z -> z.feed(ones(0, has - 1), ones(1, has - 1), ones(2, has - 1), ones(3, has - 1),
                    ones(4, has - 1)));
            }
        }
        in(() -> withTape(240));
        none("feed of twenty", z -> z.feed(-1, -1, -1, -1, -1));
        edges.same("feed of no bytes", withTape(240).feed(0, 0, 0, 0, 0), 240);
        DreamGuard full = withTape(240);
        for (int k = 0; k < 20; k++) {
            for (int sign : new int[] {1, 2, 4, 8, 16, 32, 64, 128, 255}) {
                edges.same("feed of " + sign + " alone", feedAlone(full, k, sign), NONE);
            }
        }
        edges.promise(3, "The TAPE has its first n bytes alone. False: n.");
        in(CallEdges::busy);
        refused("end(-1)", z -> z.end(-1) ? 1 : 0, 0, UNCOUNTED);
        refused("end(7)", z -> z.end(7) ? 1 : 0, 0, UNCOUNTED);
        refused("end(240)", z -> z.end(240) ? 1 : 0, 0, UNCOUNTED);
        refused("end(least)", z -> z.end(Integer.MIN_VALUE) ? 1 : 0, 0, UNCOUNTED);
        refused("end(6), all of it", z -> z.end(6) ? 1 : 0, 1, UNCOUNTED);
        DreamGuard z = withTape(240);
        edges.holds("end(240)", z.end(240));
        edges.fails("end(241)", z.end(241));
        edges.holds("end(1)", z.end(1));
        edges.fails("end(2)", z.end(2));
        edges.holds("end(0)", z.end(0));
        edges.holds("end(0) of none", z.end(0));
        edges.fails("end(1) of none", z.end(1));
        edges.same("the TAPE", z.count(2), 0);
    }

    private static int feedAlone(DreamGuard x, int place, int sign) {
        int[] words = new int[5];
        words[place / 4] = sign << 8 * (place % 4);
        return x.feed(words[0], words[1], words[2], words[3], words[4]);
    }

    /** One of five numbers that have as many bytes together as a tape of so many bytes has room for. */
    private static int ones(int which, int bytes) {
        int word = 0;
        for (int k = 0; k < 4; k++) {
            if (4 * which + k < 240 - bytes) {
                word |= 0x6d << 8 * k;
            }
        }
        return word;
    }

    private void texts() {
        edges.promise(4, "The FAULT of the TAPE as a FORT (0), a LAW (1). NONE: none. -2: no such sort.");
        in(CallEdges::busy);
        refused("fault(-1)", x -> x.fault(-1), -2, UNCOUNTED);
        refused("fault(2)", x -> x.fault(2), -2, UNCOUNTED);
        refused("fault(0)", x -> x.fault(0), 6, UNCOUNTED);
        refused("fault(1)", x -> x.fault(1), 0, UNCOUNTED);
        edges.same("fault(0)", Check.faultOf(0, "m;m"), NONE);
        edges.same("fault(1)", Check.faultOf(1, "y:1"), NONE);
        edges.same("fault(0) of a LAW", Check.faultOf(0, "y:1"), 0);
        edges.same("fault(1) of a FORT", Check.faultOf(1, "m;m"), 0);
        edges.promise(5, "NONE: a FAULT, no such sort, there are four LAWS.");
        none("text(0), a FAULT at its end", x -> x.text(0));
        none("text(1), a FAULT", x -> x.text(1));
        none("text(-1)", x -> x.text(-1));
        none("text(2)", x -> x.text(2));
        in(CallEdges::withFourLaws);
        none("text(1) of a fifth", x -> x.text(1));
        in(CallEdges::fortless);
        none("text(0), a FAULT at its end", x -> x.text(0));
        edges.same("empty", new DreamGuard().text(0), NONE);
        edges.same("empty", new DreamGuard().text(1), NONE);
    }

    private void anotherFort() {
        edges.promise(5, "The TAPE (empty then) is the FORT (NIGHT 0; all that was of another one, SEEN, SAID, too, is gone but "
            + "LAWS, which holds, SNOW, STATUS): how many MEN; a LAW: its number.");
        DreamGuard x = busy();
        Check.feed(x, "mb2");
        edges.same("text(0)", x.text(0), 3);
        int[] due = {3, 2, 0, 1, 0, 0, 0, 4, 0, 0, 0, 0};
        for (int what = 0; what <= 11; what++) {
            edges.same("count(" + what + ")", x.count(what), due[what]);
        }
        edges.status(x, 1, 1, 0, 0, 0);
        edges.row("rules", new int[] {x.rule(0), x.rule(1), x.rule(2)}, 8, 7, 20);
        edges.row("NEEDS", View.men(x, 0), 3, 3, 3);
        edges.row("DREAMS", View.men(x, 1), 3, 3, 3);
        edges.row("EYES", View.men(x, 2), 5, 5, 5);
        edges.row("BEDS", View.men(x, 3), 0, 0, 2);
        edges.row("TIRED", View.men(x, 4), 0, 0, 0);
        edges.row("DREAMT", View.men(x, 5), 0, 0, 0);
        edges.row("PLACES", View.men(x, 6), 0, 1, 2);
        edges.same("back()", x.back(), NONE);
        edges.same("undo()", x.undo(), NONE);
        edges.same("log(0, 0)", x.log(0, 0), NONE);
        edges.same("GATE", x.most(4), 0);
        edges.same("who(1, NONE)", x.who(1, NONE), 4);
        edges.same("liars()", x.liars(), 0);
        DreamGuard y = busy();
        y.end(0);
        Check.feed(y, "m;m");
        edges.same("fewer MEN than ahead", y.text(0), 2);
        edges.same("man(2, 0)", View.man(y, 2, 0), HIDDEN);
        DreamGuard z = busy();
        z.end(0);
        Check.feed(z, "y:1");
        edges.same("a LAW: its number", z.text(1), 2);
        edges.same("LAWS", z.count(1), 3);
        edges.same("which holds stays", z.count(3), 1);
        edges.same("NIGHT stays", z.count(4), 4);
        edges.same("the TAPE is empty", z.count(2), 0);
    }

    private void asNow() {
        edges.promise(6, "0 HOURS, 1 from how much on a NIGHTMARE, 2 COINS now. NONE: no FORT, no such what.");
        in(CallEdges::busy);
        none("rule(-1)", x -> x.rule(-1));
        none("rule(3)", x -> x.rule(3));
        edges.row("rule(..)", new int[] {busy().rule(0), busy().rule(1)}, 6, 5);
        in(CallEdges::fortless);
        for (int what = -1; what <= 3; what++) {
            int which = what;
            none("rule(" + what + ")", x -> x.rule(which));
        }
        edges.promise(7, "Of a MAN: 0 what he NEEDS, 1 DREAMS, 2 EYES, 3 BED, 4 TIRED, 5 DREAMT, 6 PLACE, all as now. "
            + "NoSuchElementException: no such ones.");
        for (int what = -1; what <= 7; what++) {
            int which = what;
            hidden("man(0, " + what + ")", x -> View.man(x, 0, which));
        }
        in(CallEdges::busy);
        hidden("man(-1, 0)", x -> View.man(x, -1, 0));
        hidden("man(3, 0)", x -> View.man(x, 3, 0));
        hidden("man(0, -1)", x -> View.man(x, 0, -1));
        hidden("man(0, 7)", x -> View.man(x, 0, 7));
        hidden("man(3, 7)", x -> View.man(x, 3, 7));
        edges.same("man(2, 0)", busy().man(2, 0), 2);
        edges.same("man(2, 6)", View.man(busy(), 2, 6) >= 0 ? 1 : 0, 1);
    }

    private void laws() {
        edges.promise(8, "The LAW that holds (NONE: none). False: no such one.");
        in(CallEdges::busy);
        refused("law(-2)", x -> x.law(-2) ? 1 : 0, 0, UNCOUNTED);
        refused("law(2)", x -> x.law(2) ? 1 : 0, 0, UNCOUNTED);
        refused("law(4)", x -> x.law(4) ? 1 : 0, 0, UNCOUNTED);
        refused("law(1), which holds", x -> x.law(1) ? 1 : 0, 1, UNCOUNTED);
        DreamGuard x = busy();
        edges.holds("law(0)", x.law(0));
        edges.same("holds", x.count(3), 0);
        edges.holds("law(NONE)", x.law(NONE));
        edges.same("holds", x.count(3), NONE);
        edges.holds("law(NONE) again", x.law(NONE));
        DreamGuard none = new DreamGuard();
        edges.holds("law(NONE) without LAWS", none.law(NONE));
        edges.fails("law(0) without LAWS", none.law(0));
        edges.same("holds", none.count(3), NONE);
    }

    private void acts() {
        edges.promise(9, "A BED is set: what it was. NONE: no such MAN (STATUS 0), out of bounds (1), it is so (2).");
        in(CallEdges::busy);
        counted(0, "bed(-1, 0)", x -> x.bed(-1, 0));
        counted(0, "bed(3, 0)", x -> x.bed(3, 0));
        counted(0, "bed(3, 6)", x -> x.bed(3, 6));
        counted(1, "bed(0, -1)", x -> x.bed(0, -1));
        counted(1, "bed(0, 6)", x -> x.bed(0, 6));
        counted(2, "bed as it is", x -> x.bed(1, View.man(x, 1, 3)));
        in(CallEdges::fortless);
        counted(0, "bed(0, 0)", x -> x.bed(0, 0));
        edges.promise(10, "EYES are trained: EYES then. NONE: no such MAN (STATUS 0), nine (2), too few COINS (3).");
        counted(0, "train(0)", x -> x.train(0));
        in(CallEdges::busy);
        counted(0, "train(-1)", x -> x.train(-1));
        counted(0, "train(3)", x -> x.train(3));
        in(() -> Check.fort("sc99;me9;m"));
        counted(2, "train(0) with nine", x -> x.train(0));
        in(() -> Check.fort("sc0;me9;m"));
        counted(2, "train(0) with nine and too few", x -> x.train(0));
        in(() -> Check.fort("sc1;me8;m"));
        counted(3, "train(0) with a COIN", x -> x.train(0));
        in(CallEdges::poor);
        counted(3, "train(1)", x -> x.train(1));
        edges.promise(11, "DREAMS are dulled: DREAMS then. NONE: no such MAN (STATUS 0), none (2), too few COINS (3).");
        counted(3, "dull(1)", x -> x.dull(1));
        counted(0, "dull(4)", x -> x.dull(4));
        counted(0, "dull(-1)", x -> x.dull(-1));
        in(() -> Check.fort("sc99;md0;m"));
        counted(2, "dull(0) with none", x -> x.dull(0));
        in(() -> Check.fort("sc0;md0;m"));
        counted(2, "dull(0) with none and too few", x -> x.dull(0));
        in(() -> Check.fort("sc2;md1;m"));
        counted(3, "dull(0) with 2 COINS", x -> x.dull(0));
        in(CallEdges::fortless);
        counted(0, "dull(0)", x -> x.dull(0));
        edges.promise(12, "Two change their PLACES: the PLACE of the first then. NONE: no such MEN (STATUS 0), alike (1), too few "
            + "COINS (3).");
        counted(0, "swap(0, 1)", x -> x.swap(0, 1));
        counted(0, "swap(0, 0)", x -> x.swap(0, 0));
        in(CallEdges::poor);
        counted(3, "swap(0, 1)", x -> x.swap(0, 1));
        counted(1, "swap(1, 1)", x -> x.swap(1, 1));
        counted(0, "swap(4, 4)", x -> x.swap(4, 4));
        in(CallEdges::busy);
        counted(0, "swap(-1, 0)", x -> x.swap(-1, 0));
        counted(0, "swap(0, 3)", x -> x.swap(0, 3));
        counted(1, "swap(2, 2)", x -> x.swap(2, 2));
    }

    private void nights() {
        edges.promise(13, "NONE: no FORT (STATUS 0), out of bounds (1), beyond 999 (4).");
        in(CallEdges::fortless);
        counted(0, "nights(1)", x -> x.nights(1));
        counted(0, "nights(0)", x -> x.nights(0));
        in(CallEdges::busy);
        counted(1, "nights(0)", x -> x.nights(0));
        counted(1, "nights(61)", x -> x.nights(61));
        counted(1, "nights(-1)", x -> x.nights(-1));
        counted(1, "nights(greatest)", x -> x.nights(Integer.MAX_VALUE));
        in(CallEdges::late);
        counted(4, "nights(1)", x -> x.nights(1));
        counted(4, "nights(60)", x -> x.nights(60));
        counted(1, "nights(61)", x -> x.nights(61));
    }

    private void snowAndYears() {
        edges.promise(14, "SNOW. False: out of bounds, it is so.");
        in(CallEdges::busy);
        refused("snow(-1)", x -> x.snow(-1) ? 1 : 0, 0, UNCOUNTED);
        refused("snow(10)", x -> x.snow(10) ? 1 : 0, 0, UNCOUNTED);
        refused("snow(4), it is so", x -> x.snow(4) ? 1 : 0, 0, UNCOUNTED);
        edges.holds("snow(0)", busy().snow(0));
        edges.holds("snow(9)", busy().snow(9));
        edges.promise(15, "YEARS: the NIGHT. NONE: no FORT, out of bounds, beyond 999.");
        none("years(0, 1)", x -> x.years(0, 1));
        none("years(61, 1)", x -> x.years(61, 1));
        none("years(least, 1)", x -> x.years(Integer.MIN_VALUE, 1));
        none("years(greatest, 1)", x -> x.years(Integer.MAX_VALUE, 1));
        in(CallEdges::late);
        none("years(1, 1)", x -> x.years(1, 1));
        none("years(60, 1)", x -> x.years(60, 1));
        in(CallEdges::fortless);
        none("years(1, 1)", x -> x.years(1, 1));
        DreamGuard x = late();
        x.undo();
        edges.same("years(2, 1) at 998", x.years(2, 1), NONE);
        edges.same("NIGHT", x.count(4), 998);
        edges.same("years(1, 1) at 998", x.years(1, 1), 999);
    }

    private void undoAndLog() {
        edges.promise(16, "STATUS. NONE: no such what.");
        in(CallEdges::busy);
        none("status(-1)", x -> x.status(-1));
        none("status(5)", x -> x.status(5));
        none("status(6)", x -> x.status(6));
        none("status(greatest)", x -> x.status(Integer.MAX_VALUE));
        none("status(least)", x -> x.status(Integer.MIN_VALUE));
        edges.status(busy(), 1, 1, 0, 0, 0);
        edges.promise(17, "The latest ACT is UNDONE: how many still can be. NONE: none.");
        in(() -> Check.fort("m;m;m"));
        none("undo()", x -> x.undo());
        in(CallEdges::fortless);
        none("undo()", x -> x.undo());
        edges.same("undo() of eight", busy().undo(), 7);
        edges.promise(18, "LOG, the latest (i 0), the one ahead of it (1) ..: 0 unwatched HOURS, 1 WOKEN, 2 GATE. NONE: no such "
            + "ones.");
        none("log(0, 0)", x -> x.log(0, 0));
        in(CallEdges::busy);
        none("log(-1, 0)", x -> x.log(-1, 0));
        none("log(4, 0)", x -> x.log(4, 0));
        none("log(0, -1)", x -> x.log(0, -1));
        none("log(0, 3)", x -> x.log(0, 3));
        none("log(greatest, 0)", x -> x.log(Integer.MAX_VALUE, 0));
        edges.holds("log(3, 2)", busy().log(3, 2) >= 0);
        in(CallEdges::late);
        none("log(60, 0)", x -> x.log(60, 0));
        edges.holds("log(59, 2)", late().log(59, 2) >= 0);
    }

    private void nightNow() {
        edges.promise(19, "Whether he SLEEPS (0, 1, 2). NONE: no such MAN, no such HOUR.");
        in(CallEdges::busy);
        none("sleeps(-1, 0)", x -> x.sleeps(-1, 0));
        none("sleeps(3, 0)", x -> x.sleeps(3, 0));
        none("sleeps(0, -1)", x -> x.sleeps(0, -1));
        none("sleeps(0, 6)", x -> x.sleeps(0, 6));
        edges.holds("sleeps(2, 5)", busy().sleeps(2, 5) >= 0);
        edges.promise(20, "His DREAM. NONE: he does not SLEEP, no such MAN, no such HOUR.");
        none("dream(-1, 0)", x -> x.dream(-1, 0));
        none("dream(3, 0)", x -> x.dream(3, 0));
        none("dream(0, -1)", x -> x.dream(0, -1));
        none("dream(0, 6)", x -> x.dream(0, 6));
        DreamGuard one = Check.fort("mn1b3;mn0");
        edges.row("dream(0, ..)", new int[] {one.dream(0, 2), one.dream(0, 3), one.dream(0, 4)}, NONE, 1, NONE);
        edges.promise(21, "HOURS that he sleeps (0), the HOUR in which he is WOKEN (1; NONE: he is not). HIDDEN: no such ones.");
        hidden("slept(-1, 0)", x -> x.slept(-1, 0));
        hidden("slept(3, 0)", x -> x.slept(3, 0));
        hidden("slept(0, -1)", x -> x.slept(0, -1));
        hidden("slept(0, 2)", x -> x.slept(0, 2));
        edges.same("slept(0, 1), he is not", one.slept(0, 1), NONE);
        edges.promise(22, "Of a NIGHT now: 0 HOURS slept unwatched, 1 how often the GATE is opened, 2 NIGHTMARES, 3 who is WOKEN "
            + "(bits), 4 FEWEST. NONE: no FORT, no such what.");
        none("night(-1)", x -> x.night(-1));
        none("night(5)", x -> x.night(5));
        in(CallEdges::fortless);
        none("sleeps(0, 0)", x -> x.sleeps(0, 0));
        none("dream(0, 0)", x -> x.dream(0, 0));
        hidden("slept(0, 0)", x -> x.slept(0, 0));
        hidden("slept(0, 1)", x -> x.slept(0, 1));
        for (int what = 0; what < 5; what++) {
            int which = what;
            none("night(" + what + ")", x -> x.night(which));
        }
        DreamGuard y = Check.fort("sh4n5c9;mn2d4e2b0;mn2d4e9b2;mn1d9e0b0");
        edges.row("night(..)", new int[] {y.night(0), y.night(1), y.night(2), y.night(3), y.night(4)}, 1, 0, 2, 5, 0);
    }

    private void searches() {
        edges.promise(23, "STAGGER: how many (0), the row (1). NONE: there is none, no FORT, no such what.");
        in(CallEdges::busy);
        none("stagger(-1)", x -> x.stagger(-1));
        none("stagger(2)", x -> x.stagger(2));
        in(() -> Check.fort("sh4;mn2;mn2"));
        none("stagger(-1)", x -> x.stagger(-1));
        none("stagger(2)", x -> x.stagger(2));
        none("stagger(3)", x -> x.stagger(3));
        in(() -> Check.fort("sh4;mn3;mn2"));
        none("stagger(0)", x -> x.stagger(0));
        none("stagger(1)", x -> x.stagger(1));
        in(CallEdges::fortless);
        none("stagger(0)", x -> x.stagger(0));
        none("stagger(1)", x -> x.stagger(1));
        edges.promise(24, "RING: the row (0), how many (1). NONE: no FORT, no such what.");
        none("ring(0)", x -> x.ring(0));
        none("ring(1)", x -> x.ring(1));
        in(CallEdges::busy);
        none("ring(-1)", x -> x.ring(-1));
        none("ring(2)", x -> x.ring(2));
        edges.promise(25, "BED of a MAN: that (0), how much (1). NONE: no such ones.");
        none("best(-1, 0)", x -> x.best(-1, 0));
        none("best(3, 0)", x -> x.best(3, 0));
        none("best(0, -1)", x -> x.best(0, -1));
        none("best(0, 2)", x -> x.best(0, 2));
        in(CallEdges::fortless);
        none("best(0, 0)", x -> x.best(0, 0));
    }

    private void seenAndWho() {
        edges.promise(26, "SEEN: how many there are. NONE: no such MAN, out of bounds, there are ten.");
        none("seen(0, 0, true)", x -> x.seen(0, 0, true));
        in(CallEdges::busy);
        none("seen(-1, 0, true)", x -> x.seen(-1, 0, true));
        none("seen(3, 0, true)", x -> x.seen(3, 0, true));
        none("seen(0, -1, true)", x -> x.seen(0, -1, true));
        none("seen(0, 10, true)", x -> x.seen(0, 10, true));
        edges.same("seen(2, 9, true)", busy().seen(2, 9, true), 2);
        in(CallEdges::noted);
        none("an eleventh", x -> x.seen(0, 0, true));
        edges.promise(27, "NONE: no such one, no FORT, out of bounds.");
        none("who(0, NONE)", x -> x.who(0, NONE));
        none("who(10, NONE)", x -> x.who(10, NONE));
        none("who(1, -2)", x -> x.who(1, -2));
        none("who(1, 4)", x -> x.who(1, 4));
        edges.promise(28, "LOOK. NONE: nothing fits, no FORT, out of bounds.");
        none("hourToAsk(0)", x -> x.hourToAsk(0));
        none("hourToAsk(10)", x -> x.hourToAsk(10));
        none("hourToAsk(-1)", x -> x.hourToAsk(-1));
        in(() -> {
            DreamGuard x = busy();
            x.seen(0, 1, true);
            x.seen(0, 1, false);
            return x;
        });
        none("hourToAsk(1), nothing fits", x -> x.hourToAsk(1));
        none("hourToAsk(9), nothing fits", x -> x.hourToAsk(9));
        refused("who(9, NONE), nothing fits", x -> x.who(9, NONE), 0, UNCOUNTED);
        none("who(9, 0), nothing fits", x -> x.who(9, 0));
        in(CallEdges::fortless);
        none("who(1, NONE)", x -> x.who(1, NONE));
        none("who(1, 0)", x -> x.who(1, 0));
        none("hourToAsk(1)", x -> x.hourToAsk(1));
    }

    private void saidAndLiars() {
        edges.promise(29, "SAID: how many there are. NONE: no such MEN, alike, there are ten.");
        none("said(0, 1, true)", x -> x.said(0, 1, true));
        in(CallEdges::busy);
        none("said(-1, 0, true)", x -> x.said(-1, 0, true));
        none("said(3, 0, true)", x -> x.said(3, 0, true));
        none("said(0, -1, true)", x -> x.said(0, -1, true));
        none("said(0, 3, true)", x -> x.said(0, 3, true));
        none("said(2, 2, true)", x -> x.said(2, 2, true));
        edges.same("said(2, 0, true)", busy().said(2, 0, true), 3);
        in(CallEdges::noted);
        none("an eleventh", x -> x.said(0, 1, true));
        edges.promise(30, "LIARS, as bits. NONE: no FORT.");
        in(CallEdges::fortless);
        none("liars()", x -> x.liars());
        edges.same("liars() of nothing SAID", Check.fort("m;m").liars(), 0);
    }

    private void games() {
        edges.promise(31, "GAME: what the one has (0), the other (1). HIDDEN: no such ones, alike, out of bounds.");
        hidden("game(0, 1, 0, 0, 0)", x -> x.game(0, 1, 0, 0, 0));
        in(CallEdges::busy);
        hidden("game(-1, 0, ..)", x -> x.game(-1, 0, 0, 0, 0));
        hidden("game(3, 0, ..)", x -> x.game(3, 0, 0, 0, 0));
        hidden("game(0, -1, ..)", x -> x.game(0, -1, 0, 0, 0));
        hidden("game(0, 3, ..)", x -> x.game(0, 3, 0, 0, 0));
        hidden("game(1, 1, ..)", x -> x.game(1, 1, 0, 0, 0));
        hidden("game, x -1", x -> x.game(0, 1, -1, 0, 0));
        hidden("game, x 4", x -> x.game(0, 1, 4, 0, 0));
        hidden("game, y -1", x -> x.game(0, 1, 0, -1, 0));
        hidden("game, y 4", x -> x.game(0, 1, 0, 4, 0));
        hidden("game, what -1", x -> x.game(0, 1, 0, 0, -1));
        hidden("game, what 2", x -> x.game(0, 1, 0, 0, 2));
        edges.holds("game(2, 1, 3, 3, 1)", busy().game(2, 1, 3, 3, 1) > HIDDEN);
        edges.promise(32, "RESTS: how many (i NONE), the i-th. NONE: no such one, no such MEN, alike.");
        none("rests(-1, 0, NONE)", x -> x.rests(-1, 0, NONE));
        none("rests(3, 0, NONE)", x -> x.rests(3, 0, NONE));
        none("rests(0, -1, NONE)", x -> x.rests(0, -1, NONE));
        none("rests(0, 3, NONE)", x -> x.rests(0, 3, NONE));
        none("rests(1, 1, NONE)", x -> x.rests(1, 1, NONE));
        none("rests(0, 1, -2)", x -> x.rests(0, 1, -2));
        none("rests(0, 1, 16)", x -> x.rests(0, 1, 16));
        in(CallEdges::fortless);
        none("rests(0, 1, NONE)", x -> x.rests(0, 1, NONE));
    }

    private void oddsAndShares() {
        edges.promise(33, "ODDS. NONE: no FORT, out of bounds.");
        none("odds(0)", x -> x.odds(0));
        in(CallEdges::busy);
        none("odds(-1)", x -> x.odds(-1));
        none("odds(101)", x -> x.odds(101));
        edges.promise(34, "SHARES. NONE: no such MAN, out of bounds.");
        none("shares(-1, 0)", x -> x.shares(-1, 0));
        none("shares(3, 0)", x -> x.shares(3, 0));
        none("shares(0, -1)", x -> x.shares(0, -1));
        none("shares(0, 1000)", x -> x.shares(0, 1000));
        in(CallEdges::fortless);
        none("shares(0, 0)", x -> x.shares(0, 0));
    }

    private void ofMen() {
        edges.promise(35, "WATCHER. NONE: no such MAN.");
        none("watcher(0)", x -> x.watcher(0));
        in(CallEdges::busy);
        none("watcher(-1)", x -> x.watcher(-1));
        none("watcher(3)", x -> x.watcher(3));
        edges.promise(36, "AWAKE, as bits. NONE: no such HOUR, no FORT.");
        none("awake(-1)", x -> x.awake(-1));
        none("awake(6)", x -> x.awake(6));
        in(CallEdges::fortless);
        none("awake(0)", x -> x.awake(0));
        edges.same("awake(0), all", Check.fort("mn0;mn0;mn0;mn0;mn0;mn0").awake(0), 63);
        edges.same("awake(7), none", Check.fort("mn8;mn8;mn8;mn8;mn8;mn8").awake(7), 0);
        edges.promise(37, "TIREDEST (0), SOUNDEST (1), KEENEST (2), RESTED (3; NONE: not within 60), GATE opened in all (4). "
            + "NONE: no FORT, no such what.");
        for (int what = 0; what < 5; what++) {
            int which = what;
            none("most(" + what + ")", x -> x.most(which));
        }
        in(CallEdges::busy);
        none("most(-1)", x -> x.most(-1));
        none("most(5)", x -> x.most(5));
        in(() -> {
            DreamGuard x = Check.fort("mn1b7;mn2b7");
            x.nights(60);
            return x;
        });
        none("most(3), not within 60", x -> x.most(3));
        edges.promise(38, "SPARE. NONE: no such MAN.");
        in(CallEdges::busy);
        none("spare(-1)", x -> x.spare(-1));
        none("spare(3)", x -> x.spare(3));
        in(CallEdges::fortless);
        none("spare(0)", x -> x.spare(0));
    }

    private void imagesAndCounts() {
        edges.promise(39, "NONE: no FORT.");
        none("image()", x -> x.image());
        edges.promise(40, "NONE: no IMAGE of this FORT.");
        none("back()", x -> x.back());
        in(() -> {
            DreamGuard x = busy();
            x.text(0);
            Check.feed(x, "m");
            x.text(0);
            x.nights(2);
            return x;
        });
        none("back()", x -> x.back());
        edges.promise(41, "0 MEN, 1 LAWS, 2 bytes of the TAPE, 3 the LAW that holds (NONE), 4 the NIGHT, 5 TIRED of all, "
            + "6 DREAMT of all, 7 SNOW, 8 SEEN, 9 SAID, 10 how long the LOG is, 11 ACTS that can be UNDONE. HIDDEN for others.");
        hidden("count(-1)", x -> x.count(-1));
        hidden("count(12)", x -> x.count(12));
        hidden("count(least)", x -> x.count(Integer.MIN_VALUE));
        in(CallEdges::fortless);
        hidden("count(-1)", x -> x.count(-1));
        hidden("count(12)", x -> x.count(12));
        DreamGuard y = busy();
        int[] due = {3, 2, 6, 1, 4};
        for (int what = 0; what < due.length; what++) {
            edges.same("count(" + what + ")", y.count(what), due[what]);
        }
        int[] rest = {4, 1, 2, 4, 8};
        for (int what = 7; what <= 11; what++) {
            edges.same("count(" + what + ")", y.count(what), rest[what - 7]);
        }
    }

    private void newObject() {
        edges.promise(1, "No FORT.");
        DreamGuard x = new DreamGuard();
        for (int what = 0; what <= 11; what++) {
            edges.same("count(" + what + ")", x.count(what), what == 3 ? NONE : 0);
        }
        edges.status(x, 0, 0, 0, 0, 0);
        edges.same("fault(0)", x.fault(0), 0);
        edges.same("fault(1)", x.fault(1), 0);
        edges.same("rule(0)", x.rule(0), NONE);
        edges.same("man(0, 0)", View.man(x, 0, 0), HIDDEN);
        edges.sentence("What is refused answers as told and changes nothing but STATUS.");
        in(DreamGuard::new);
        counted(0, "bed(0, 0)", y -> y.bed(0, 0));
        counted(0, "train(0)", y -> y.train(0));
        counted(0, "dull(0)", y -> y.dull(0));
        counted(0, "swap(0, 1)", y -> y.swap(0, 1));
        counted(0, "nights(1)", y -> y.nights(1));
        none("years(1, 1)", y -> y.years(1, 1));
        none("undo()", y -> y.undo());
        none("image()", y -> y.image());
        none("back()", y -> y.back());
    }

    /** The document speaks of 512 calls: the last of them is still as told. */
    private void lastCall() {
        edges.sentence("not UNDONE.");
        DreamGuard x = new DreamGuard();
        for (int call = 1; call < 512; call++) {
            x.train(0);
        }
        edges.same("status(0), the last call", x.status(0), 511);
    }
}
