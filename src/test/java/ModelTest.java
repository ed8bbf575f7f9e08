import java.util.NoSuchElementException;
import java.util.Random;

/** Long runs of drawn calls, right ones and wrong ones, each answer held against the model's. */
public final class ModelTest {
    private static final int RUNS = 1200;
    private static final int CALLS = 480;
    private static final int[] WILD = {-1000000, -3, -2, -1, 6, 7, 9, 10, 60, 61, 100, 101, 999, 1000,
        Integer.MAX_VALUE, Integer.MIN_VALUE};

    private final Check check = new Check();
    private final Random random;
    private DreamGuard guard;
    private Model model;
    private String trace = "";
    private int calls;

    private ModelTest(long seed) {
        random = new Random(seed);
    }

    public static void main(String[] args) {
        ModelTest test = new ModelTest(args.length > 0 ? Long.parseLong(args[0]) : 20261118);
        for (int run = 0; run < RUNS; run++) {
            test.run(run);
        }
        test.check.finish();
    }

    private void run(int run) {
        guard = new DreamGuard();
        model = new Model();
        calls = 0;
        boolean told = false;
        boolean longLived = run % 3 == 0;
        while (calls < CALLS) {
            trace = "run " + run + ", call " + calls + ": ";
            if (!told && calls > 5 || random.nextInt(longLived ? 400 : 80) == 0) {
                tell(0, random.nextInt(6) == 0 ? spoilt(drawFort()) : drawFort());
                told = model.count(0) > 0;
            } else if (random.nextInt(40) == 0) {
                tell(1, random.nextInt(4) == 0 ? spoilt(drawLaw()) : drawLaw());
            } else if (longLived && random.nextInt(8) == 0) {
                same("nights(60)", guard.nights(60), model.nights(60));
            } else {
                callAny(random.nextInt(42));
            }
        }
    }

    private void same(String call, long got, long due) {
        calls++;
        check.same(trace + call, got, due);
    }

    private void same(String call, boolean got, boolean due) {
        same(call, got ? 1 : 0, due ? 1 : 0);
    }

    // ---- texts

    private void tell(int sort, String text) {
        same("end(0)", guard.end(0), model.end(0));
        for (int from = 0; from < text.length(); from += 20) {
            int[] w = new int[5];
            for (int k = 0; k < 20 && from + k < text.length(); k++) {
                w[k / 4] |= (text.charAt(from + k) & 255) << (24 - 8 * (k % 4));
            }
            same("feed", guard.feed(w[0], w[1], w[2], w[3], w[4]), model.feed(w));
        }
        same("fault(" + sort + ") of \"" + text + "\"", guard.fault(sort), model.fault(sort));
        same("text(" + sort + ") of \"" + text + "\"", guard.text(sort), model.text(sort));
    }

    private String oneOf(String... texts) {
        return texts[random.nextInt(texts.length)];
    }

    private String spoilt(String text) {
        StringBuilder out = new StringBuilder(text);
        for (int k = random.nextInt(3); k >= 0 && out.length() > 0; k--) {
            int at = random.nextInt(out.length());
            String signs = "smyhncdebiw:;?!()[]+-*/=<>&|0123456789 x" + (char) 233;
            String sign = "" + signs.charAt(random.nextInt(signs.length()));
            switch (random.nextInt(4)) {
                case 0 -> out.deleteCharAt(at);
                case 1 -> out.insert(at, sign);
                case 2 -> out.setLength(at);
                default -> out.replace(at, at + 1, sign);
            }
        }
        return out.toString();
    }

    private String drawFort() {
        StringBuilder out = new StringBuilder();
        int men = 2 + random.nextInt(5);
        int rulesAt = random.nextInt(men + 1);
        int hours = 4 + random.nextInt(7);
        for (int k = 0; k <= men; k++) {
            if (k > 0) {
                out.append(oneOf(";", ";", " ; "));
            }
            if (k == rulesAt) {
                out.append("sh").append(hours).append(oneOf("", "n" + (1 + random.nextInt(20)), " n 4"));
                out.append(oneOf("", "c" + random.nextInt(100), "c0"));
            } else {
                int bound = random.nextInt(3) == 0 ? hours + 1 : 1 + hours / 2;
                out.append("m").append(oneOf("n", " n ")).append(random.nextInt(bound));
                out.append(oneOf("", "d" + random.nextInt(10))).append(oneOf("", "e" + random.nextInt(10)));
                out.append(oneOf("", "b" + random.nextInt(Math.min(hours, 10))));
            }
        }
        return out.toString();
    }

    private String drawLaw() {
        StringBuilder out = new StringBuilder();
        for (int k = random.nextInt(4); k >= 0; k--) {
            out.append(oneOf("y:", "y :")).append(random.nextInt(4) == 0 ? "" : drawCondition(3) + "?");
            out.append(drawSum(3)).append(k > 0 ? oneOf(";", "; ") : "");
        }
        return out.length() <= 240 ? out.toString() : drawLaw();
    }

    private String drawCondition(int depth) {
        int kind = depth == 0 ? 3 : random.nextInt(9);
        return switch (kind) {
            case 0 -> "!" + drawUnit(depth - 1);
            case 1 -> drawCondition(depth - 1) + "|" + drawCondition(depth - 1);
            case 2 -> drawUnit(depth - 1) + oneOf("&", " & ") + drawUnit(depth - 1);
            default -> drawSum(1) + oneOf("=", "<", ">") + drawSum(1);
        };
    }

    private String drawUnit(int depth) {
        return depth > 0 && random.nextBoolean() ? "(" + drawCondition(depth) + ")"
            : random.nextInt(5) == 0 ? "!" + drawSum(1) + "=" + drawSum(1) : drawSum(1) + "<" + drawSum(1);
    }

    private String drawSum(int depth) {
        int kind = depth == 0 ? 9 : random.nextInt(10);
        if (kind < 4) {
            return drawSum(depth - 1) + oneOf("+", "-", "*", "/", "-", "+") + drawSum(depth - 1);
        }
        if (kind == 4) {
            return "[" + drawSum(depth - 1) + "]";
        }
        return oneOf("d", "i", "e", "h", "w", "n", "d", "i", "e", "1", "2", "7", "15", "9999", "003");
    }

    // ---- calls

    private int small(int below) {
        return random.nextInt(25) == 0 ? WILD[random.nextInt(WILD.length)] : random.nextInt(below);
    }

    private void callAny(int which) {
        int a = small(6);
        int b = small(7);
        String of = "(" + a + ", " + b + ")";
        switch (which) {
            case 0 -> same("rule" + of, guard.rule(a), model.rule(a));
            case 1, 2, 3 -> same("man" + of, man(a, b), model.man(a, b));
            case 4 -> same("law" + of, guard.law(a - 1), model.law(a - 1));
            case 5, 6 -> callBed(a, small(10));
            case 7 -> same("train" + of, guard.train(a), model.train(a));
            case 8 -> same("dull" + of, guard.dull(a), model.dull(a));
            case 9, 10 -> same("swap" + of, guard.swap(a, b), model.swap(a, b));
            case 11, 12 -> same("nights" + of, guard.nights(a), model.nights(a));
            case 13 -> callYears(small(8), random.nextLong());
            case 14 -> same("status" + of, guard.status(a), model.status(a));
            case 15, 16 -> same("undo", guard.undo(), model.undo());
            case 17, 18 -> callLog(small(62), small(4));
            case 19, 20 -> callSleeps(a, small(10));
            case 21 -> callSlept(a, small(3));
            case 22 -> same("night" + of, guard.night(a), model.night(a));
            case 23 -> callSearch(small(3));
            case 24 -> callBest(a, small(3));
            case 25 -> callSeen(a, small(10), random.nextInt(4) == 0);
            case 26, 27 -> callWho(small(10), small(6) - 1);
            case 28 -> callSaid(a, b, random.nextBoolean());
            case 29 -> same("liars", guard.liars(), model.liars());
            case 30 -> callGame(a, b, small(5), small(5), small(3));
            case 31 -> callRests(a, b, small(6) - 1);
            case 32 -> callOdds(small(102));
            case 33 -> callShares(a, small(1001));
            case 34 -> same("watcher" + of, guard.watcher(a), model.watcher(a));
            case 35 -> callAwake(small(11));
            case 36 -> same("most" + of, guard.most(b), model.most(b));
            case 37 -> same("spare" + of, guard.spare(a), model.spare(a));
            case 38 -> callImage();
            case 39 -> same("snow" + of, guard.snow(b), model.snow(b));
            case 40 -> callTape();
            default -> callCount(small(13));
        }
    }

    private int man(int man, int what) {
        try {
            return guard.man(man, what);
        } catch (NoSuchElementException e) {
            return Model.HIDDEN;
        }
    }

    private void callBed(int man, int hour) {
        same("bed(" + man + ", " + hour + ")", guard.bed(man, hour), model.bed(man, hour));
    }

    private void callYears(int n, long seed) {
        same("years(" + n + ", " + seed + ")", guard.years(n, seed), model.years(n, seed));
    }

    private void callLog(int i, int what) {
        same("log(" + i + ", " + what + ")", guard.log(i, what), model.log(i, what));
    }

    private void callSleeps(int man, int hour) {
        same("sleeps(" + man + ", " + hour + ")", guard.sleeps(man, hour), model.sleeps(man, hour));
        same("dream(" + man + ", " + hour + ")", guard.dream(man, hour), model.dream(man, hour));
    }

    private void callSlept(int man, int what) {
        same("slept(" + man + ", " + what + ")", guard.slept(man, what), model.slept(man, what));
    }

    private void callSearch(int what) {
        if (random.nextInt(3) == 0) {
            same("stagger(" + what + ")", guard.stagger(what), model.stagger(what));
        } else {
            same("ring(" + what + ")", guard.ring(what), model.ring(what));
        }
    }

    private void callBest(int man, int what) {
        same("best(" + man + ", " + what + ")", guard.best(man, what), model.best(man, what));
    }

    private void callSeen(int man, int hour, boolean is) {
        same("seen(" + man + ", " + hour + ", " + is + ")", guard.seen(man, hour, is), model.seen(man, hour, is));
    }

    private void callWho(int g, int i) {
        same("who(" + g + ", " + i + ")", guard.who(g, i), model.who(g, i));
        same("hourToAsk(" + g + ")", guard.hourToAsk(g), model.hourToAsk(g));
    }

    private void callSaid(int man, int other, boolean woken) {
        same("said(" + man + ", " + other + ", " + woken + ")", guard.said(man, other, woken),
            model.said(man, other, woken));
    }

    private void callGame(int one, int other, int x, int y, int what) {
        same("game(" + one + ", " + other + ", " + x + ", " + y + ", " + what + ")",
            guard.game(one, other, x, y, what), model.game(one, other, x, y, what));
    }

    private void callRests(int one, int other, int i) {
        same("rests(" + one + ", " + other + ", " + i + ")", guard.rests(one, other, i), model.rests(one, other, i));
    }

    private void callOdds(int chance) {
        same("odds(" + chance + ")", guard.odds(chance), model.odds(chance));
    }

    private void callShares(int man, int c) {
        same("shares(" + man + ", " + c + ")", guard.shares(man, c), model.shares(man, c));
    }

    private void callAwake(int hour) {
        same("awake(" + hour + ")", guard.awake(hour), model.awake(hour));
    }

    private void callImage() {
        if (random.nextInt(3) == 0) {
            same("back()", guard.back(), model.back());
        } else {
            same("image()", guard.image(), model.image());
        }
    }

    private void callCount(int what) {
        same("count(" + what + ")", guard.count(what), model.count(what));
    }

    private void callTape() {
        int a = random.nextInt();
        int n = small(240);
        same("feed", guard.feed(a, 0, a << 8, a, 0), model.feed(a, 0, a << 8, a, 0));
        same("end(" + n + ")", guard.end(n), model.end(n));
        int sort = small(3);
        same("fault(" + sort + ")", guard.fault(sort), model.fault(sort));
        same("text(" + sort + ")", guard.text(sort), model.text(sort));
    }
}
