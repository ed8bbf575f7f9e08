import java.util.ArrayDeque;
import java.util.ArrayList;
import java.util.Arrays;
import java.util.Deque;
import java.util.HashMap;
import java.util.List;
import java.util.Map;
import java.util.function.IntPredicate;
import java.util.regex.Matcher;
import java.util.regex.Pattern;

/**
 * The document once more, written plainly with the Java library and by trying everything out, so that
 * the class can be held against it.
 */
final class Model {
    static final int NONE = -1;
    static final int HIDDEN = -1000000;

    private record Fort(int hours, int nightmare, int coins, List<int[]> men) { }

    private record Entry(int unwatched, int woken, int gate) { }

    private record Note(int man, int thing, boolean is) { }

    /** What acts change. */
    private static final class World {
        int[] bed;
        int[] eyes;
        int[] dreams;
        int[] tired;
        int[] dreamt;
        List<Integer> ring = new ArrayList<>();
        int coins;
        int gate;
        int night;
        List<Entry> log = new ArrayList<>();

        World copy() {
            World w = new World();
            w.bed = bed.clone();
            w.eyes = eyes.clone();
            w.dreams = dreams.clone();
            w.tired = tired.clone();
            w.dreamt = dreamt.clone();
            w.ring = new ArrayList<>(ring);
            w.coins = coins;
            w.gate = gate;
            w.night = night;
            w.log = new ArrayList<>(log);
            return w;
        }

        int watcher(int man) {
            int place = ring.indexOf(man);
            return ring.get((place + ring.size() - 1) % ring.size());
        }
    }

    /** What a night is like: by men and hours. */
    private static final class Outcome {
        int[][] sleeps;
        int[][] dream;
        int[] wokenAt;
        int unwatched;
        int gate;
        int calm;

        int slept(int man) {
            return (int) Arrays.stream(sleeps[man]).filter(v -> v > 0).count();
        }

        int dreamt(int man) {
            return Arrays.stream(dream[man]).filter(v -> v >= 0).sum();
        }

        int nightmares(int man, int from) {
            return (int) Arrays.stream(dream[man]).filter(v -> v >= from).count();
        }

        int wokenBits() {
            int bits = 0;
            for (int m = 0; m < wokenAt.length; m++) {
                bits += wokenAt[m] >= 0 ? 1 << m : 0;
            }
            return bits;
        }

        int awakeBits(int hour) {
            int bits = 0;
            for (int m = 0; m < wokenAt.length; m++) {
                bits += sleeps[m][hour] == 0 ? 1 << m : 0;
            }
            return bits;
        }
    }

    private StringBuilder tape = new StringBuilder();
    private Fort fort;
    private World now;
    private World image;
    private final List<String> laws = new ArrayList<>();
    private int holds = NONE;
    private int snow = 0;
    private final int[] status = new int[5];
    private final Deque<World> acts = new ArrayDeque<>();
    private final List<Note> seen = new ArrayList<>();
    private final List<Note> said = new ArrayList<>();

    // ---- tape

    int feed(int... words) {
        StringBuilder more = new StringBuilder();
        for (int word : words) {
            for (int k = 3; k >= 0; k--) {
                int sign = word >> 8 * k & 255;
                if (sign != 0) {
                    more.append((char) sign);
                }
            }
        }
        if (tape.length() + more.length() > 240) {
            return NONE;
        }
        tape.append(more);
        return tape.length();
    }

    boolean end(int n) {
        if (n < 0 || n > tape.length()) {
            return false;
        }
        tape.setLength(n);
        return true;
    }

    int fault(int sort) {
        return sort < 0 || sort > 1 ? -2 : Grammar.fault(sort, tape.toString());
    }

    int text(int sort) {
        if (fault(sort) != NONE || sort == 1 && laws.size() == 4) {
            return NONE;
        }
        String text = tape.toString().replace(" ", "");
        tape = new StringBuilder();
        if (sort == 1) {
            laws.add(text);
            return laws.size() - 1;
        }
        tellFort(text);
        return fort.men().size();
    }

    private void tellFort(String text) {
        List<int[]> men = new ArrayList<>();
        Map<Character, Integer> rules = new HashMap<>(Map.of('h', 8, 'n', 7, 'c', 20));
        for (String clause : text.split(";")) {
            Map<Character, Integer> items = clause.charAt(0) == 's' ? rules
                : new HashMap<>(Map.of('n', 3, 'd', 3, 'e', 5, 'b', 0));
            Matcher matcher = Pattern.compile("([a-z])([0-9]+)").matcher(clause.substring(1));
            while (matcher.find()) {
                items.put(matcher.group(1).charAt(0), Integer.parseInt(matcher.group(2)));
            }
            if (items != rules) {
                men.add(new int[] {items.get('n'), items.get('d'), items.get('e'), items.get('b')});
            }
        }
        fort = new Fort(rules.get('h'), rules.get('n'), rules.get('c'), men);
        now = told();
        image = null;
        acts.clear();
        seen.clear();
        said.clear();
    }

    private World told() {
        World w = new World();
        w.dreams = fort.men().stream().mapToInt(m -> m[1]).toArray();
        w.eyes = fort.men().stream().mapToInt(m -> m[2]).toArray();
        w.bed = fort.men().stream().mapToInt(m -> m[3]).toArray();
        w.tired = new int[fort.men().size()];
        w.dreamt = new int[fort.men().size()];
        for (int m = 0; m < fort.men().size(); m++) {
            w.ring.add(m);
        }
        w.coins = fort.coins();
        return w;
    }

    private int men() {
        return fort == null ? 0 : fort.men().size();
    }

    private boolean noMan(int man) {
        return man < 0 || man >= men();
    }

    private boolean noHour(int hour) {
        return fort == null || hour < 0 || hour >= fort.hours();
    }

    private int needs(int man) {
        return fort.men().get(man)[0];
    }

    // ---- laws

    private static int hold(long v) {
        return (int) Math.max(-1000000, Math.min(1000000, v));
    }

    /** Where one of the signs stands outside of all brackets, the last such place; -1: nowhere. */
    private static int split(String text, String signs) {
        int depth = 0;
        for (int k = text.length() - 1; k >= 0; k--) {
            char sign = text.charAt(k);
            depth += sign == ')' || sign == ']' ? 1 : sign == '(' || sign == '[' ? -1 : 0;
            if (depth == 0 && signs.indexOf(sign) >= 0) {
                return k;
            }
        }
        return -1;
    }

    private static int sum(String text, Map<Character, Integer> letters) {
        int at = split(text, "+-");
        if (at < 0) {
            at = split(text, "*/");
        }
        if (at >= 0) {
            long a = sum(text.substring(0, at), letters);
            long b = sum(text.substring(at + 1), letters);
            return switch (text.charAt(at)) {
                case '+' -> hold(a + b);
                case '-' -> hold(a - b);
                case '*' -> hold(a * b);
                default -> b == 0 ? 0 : hold(a / b);
            };
        }
        if (text.charAt(0) == '[') {
            return sum(text.substring(1, text.length() - 1), letters);
        }
        Integer letter = letters.get(text.charAt(0));
        return letter != null ? letter : Integer.parseInt(text);
    }

    private static boolean condition(String text, Map<Character, Integer> letters) {
        for (String sign : new String[] {"|", "&"}) {
            int at = split(text, sign);
            if (at >= 0) {
                boolean a = condition(text.substring(0, at), letters);
                boolean b = condition(text.substring(at + 1), letters);
                return sign.equals("|") ? a || b : a && b;
            }
        }
        if (text.charAt(0) == '!') {
            return !condition(text.substring(1), letters);
        }
        if (text.charAt(0) == '(') {
            return condition(text.substring(1, text.length() - 1), letters);
        }
        int at = split(text, "=<>");
        int a = sum(text.substring(0, at), letters);
        int b = sum(text.substring(at + 1), letters);
        return text.charAt(at) == '=' ? a == b : text.charAt(at) == '<' ? a < b : a > b;
    }

    private static int worth(String law, Map<Character, Integer> letters) {
        for (String clause : law.split(";")) {
            String body = clause.substring(2);
            int at = body.indexOf('?');
            if (at < 0 || condition(body.substring(0, at), letters)) {
                return sum(body.substring(at + 1), letters);
            }
        }
        return 0;
    }

    // ---- nights

    private Outcome run(World w) {
        int men = men();
        int hours = fort.hours();
        Outcome o = new Outcome();
        o.sleeps = new int[men][hours];
        o.dream = new int[men][hours];
        o.wokenAt = new int[men];
        Arrays.fill(o.wokenAt, NONE);
        int[] slept = new int[men];
        for (int hour = 0; hour < hours; hour++) {
            int now = hour;
            int[] wokenAhead = o.wokenAt.clone();
            IntPredicate asleep = m -> wokenAhead[m] == NONE && now >= w.bed[m] && now < w.bed[m] + needs(m);
            int watchedOnes = 0;
            int unwatchedOnes = 0;
            for (int m = 0; m < men; m++) {
                o.dream[m][hour] = NONE;
                if (!asleep.test(m)) {
                    continue;
                }
                boolean watched = !asleep.test(w.watcher(m));
                int eyes = w.eyes[w.watcher(m)];
                int dream = holds == NONE ? w.dreams[m] + slept[m] - (watched ? eyes / 2 : 0)
                    : worth(laws.get(holds), Map.of('d', w.dreams[m], 'i', slept[m], 'e', eyes,
                        'h', hour, 'w', watched ? 1 : 0, 'n', w.night));
                dream = Math.max(0, Math.min(20, dream));
                o.sleeps[m][hour] = watched ? 2 : 1;
                o.dream[m][hour] = dream;
                slept[m]++;
                watchedOnes += watched ? 1 : 0;
                unwatchedOnes += watched ? 0 : 1;
                if (dream >= fort.nightmare()) {
                    if (watched) {
                        o.wokenAt[m] = hour;
                    } else {
                        o.gate++;
                    }
                }
            }
            o.unwatched += unwatchedOnes;
            o.calm += watchedOnes > 0 && unwatchedOnes == 0 ? 1 : 0;
        }
        return o;
    }

    private void pass(World w) {
        Outcome o = run(w);
        for (int m = 0; m < men(); m++) {
            w.dreamt[m] = Math.min(9999, w.dreamt[m] + o.dreamt(m));
            int lacks = needs(m) - o.slept(m);
            w.tired[m] = lacks > 0 ? Math.min(99, w.tired[m] + lacks) : Math.max(0, w.tired[m] - 1);
        }
        w.coins = Math.min(999, w.coins + o.calm);
        w.gate += o.gate;
        w.log.add(0, new Entry(o.unwatched, o.wokenBits(), o.gate));
        if (w.log.size() > 60) {
            w.log.remove(60);
        }
        w.night++;
    }

    private int nightmares(World w) {
        Outcome o = run(w);
        int all = 0;
        for (int m = 0; m < men(); m++) {
            all += o.nightmares(m, fort.nightmare());
        }
        return all;
    }

    // ---- the face

    int rule(int what) {
        if (fort == null || what < 0 || what > 2) {
            return NONE;
        }
        return new int[] {fort.hours(), fort.nightmare(), now.coins}[what];
    }

    /** HIDDEN stands for the exception. */
    int man(int man, int what) {
        if (noMan(man) || what < 0 || what > 6) {
            return HIDDEN;
        }
        return new int[] {needs(man), now.dreams[man], now.eyes[man], now.bed[man], now.tired[man],
            now.dreamt[man], now.ring.indexOf(man)}[what];
    }

    boolean law(int law) {
        if (law < NONE || law >= laws.size()) {
            return false;
        }
        holds = law;
        return true;
    }

    private int refuse(int reason) {
        status[reason]++;
        return NONE;
    }

    private void act() {
        acts.push(now.copy());
        if (acts.size() > 40) {
            acts.removeLast();
        }
    }

    int bed(int man, int hour) {
        if (noMan(man)) {
            return refuse(0);
        }
        if (noHour(hour)) {
            return refuse(1);
        }
        if (now.bed[man] == hour) {
            return refuse(2);
        }
        act();
        int was = now.bed[man];
        now.bed[man] = hour;
        return was;
    }

    int train(int man) {
        if (noMan(man)) {
            return refuse(0);
        }
        if (now.eyes[man] == 9) {
            return refuse(2);
        }
        if (now.coins < 2) {
            return refuse(3);
        }
        act();
        now.coins -= 2;
        return ++now.eyes[man];
    }

    int dull(int man) {
        if (noMan(man)) {
            return refuse(0);
        }
        if (now.dreams[man] == 0) {
            return refuse(2);
        }
        if (now.coins < 3) {
            return refuse(3);
        }
        act();
        now.coins -= 3;
        return --now.dreams[man];
    }

    private void change(int man, int other) {
        int a = now.ring.indexOf(man);
        int b = now.ring.indexOf(other);
        now.ring.set(a, other);
        now.ring.set(b, man);
    }

    int swap(int man, int other) {
        if (noMan(man) || noMan(other)) {
            return refuse(0);
        }
        if (man == other) {
            return refuse(1);
        }
        if (now.coins < 1) {
            return refuse(3);
        }
        act();
        now.coins--;
        change(man, other);
        return now.ring.indexOf(man);
    }

    int nights(int n) {
        if (fort == null) {
            return refuse(0);
        }
        if (n < 1 || n > 60) {
            return refuse(1);
        }
        if (now.night > 999 - n) {
            return refuse(4);
        }
        for (int k = 0; k < n; k++) {
            act();
            pass(now);
        }
        return now.night;
    }

    boolean snow(int v) {
        if (v < 0 || v > 9 || v == snow) {
            return false;
        }
        snow = v;
        return true;
    }

    int years(int n, long seed) {
        if (fort == null || n < 1 || n > 60 || now.night > 999 - n) {
            return NONE;
        }
        long[] x = {seed};
        for (int k = 0; k < n; k++) {
            act();
            int man = draw(x, men());
            now.bed[man] = draw(x, fort.hours());
            if (draw(x, 10) < snow) {
                int one = draw(x, men());
                int other = draw(x, men());
                if (one != other) {
                    change(one, other);
                }
            }
            pass(now);
        }
        return now.night;
    }

    private static int draw(long[] x, int j) {
        x[0] = x[0] * 6364136223846793005L + 1442695040888963407L;
        return (int) ((x[0] >>> 33) % j);
    }

    int status(int what) {
        return what < 0 || what > 4 ? NONE : status[what];
    }

    int undo() {
        if (acts.isEmpty()) {
            return NONE;
        }
        now = acts.pop();
        return acts.size();
    }

    int log(int i, int what) {
        if (fort == null || i < 0 || i >= now.log.size() || what < 0 || what > 2) {
            return NONE;
        }
        Entry e = now.log.get(i);
        return new int[] {e.unwatched(), e.woken(), e.gate()}[what];
    }

    int sleeps(int man, int hour) {
        return noMan(man) || noHour(hour) ? NONE : run(now).sleeps[man][hour];
    }

    int dream(int man, int hour) {
        return noMan(man) || noHour(hour) ? NONE : run(now).dream[man][hour];
    }

    int slept(int man, int what) {
        if (noMan(man) || what < 0 || what > 1) {
            return HIDDEN;
        }
        return what == 0 ? run(now).slept(man) : run(now).wokenAt[man];
    }

    int night(int what) {
        if (fort == null || what < 0 || what > 4) {
            return NONE;
        }
        Outcome o = run(now);
        int fewest = 0;
        for (int hour = 1; hour < fort.hours(); hour++) {
            if (Integer.bitCount(o.awakeBits(hour)) < Integer.bitCount(o.awakeBits(fewest))) {
                fewest = hour;
            }
        }
        return new int[] {o.unwatched, o.gate, nightmares(now), o.wokenBits(), fewest}[what];
    }

    int stagger(int what) {
        if (fort == null || what < 0 || what > 1) {
            return NONE;
        }
        int[] best = {Integer.MAX_VALUE, NONE};
        tryBeds(new int[men()], 0, best);
        return best[1] == NONE ? NONE : best[what];
    }

    /** All rows of beds, the least ahead. */
    private void tryBeds(int[] row, int man, int[] best) {
        if (man == men()) {
            int changed = 0;
            int digits = 0;
            for (int m = 0; m < men(); m++) {
                changed += row[m] == now.bed[m] ? 0 : 1;
                digits = digits * 10 + row[m];
            }
            if (changed < best[0] && alwaysWatched(row)) {
                best[0] = changed;
                best[1] = digits;
            }
            return;
        }
        for (int bed = 0; bed < fort.hours() && bed + needs(man) <= fort.hours(); bed++) {
            row[man] = bed;
            tryBeds(row, man + 1, best);
        }
    }

    private boolean alwaysWatched(int[] row) {
        for (int m = 0; m < men(); m++) {
            int w = now.watcher(m);
            for (int hour = 0; hour < fort.hours(); hour++) {
                boolean sleeps = hour >= row[m] && hour < row[m] + needs(m);
                boolean dozes = hour >= row[w] && hour < row[w] + needs(w);
                if (sleeps && dozes) {
                    return false;
                }
            }
        }
        return true;
    }

    int ring(int what) {
        if (fort == null || what < 0 || what > 1) {
            return NONE;
        }
        int[] best = {NONE, Integer.MAX_VALUE};
        List<Integer> row = new ArrayList<>(List.of(now.ring.get(0)));
        tryRings(row, best);
        return best[what];
    }

    private void tryRings(List<Integer> row, int[] best) {
        if (row.size() == men()) {
            World w = now.copy();
            w.ring = row;
            int nightmares = nightmares(w);
            if (nightmares < best[1]) {
                best[1] = nightmares;
                best[0] = row.stream().reduce(0, (a, b) -> 10 * a + b);
            }
            return;
        }
        for (int m = 0; m < men(); m++) {
            if (!row.contains(m)) {
                row.add(m);
                tryRings(row, best);
                row.remove(row.size() - 1);
            }
        }
    }

    int best(int man, int what) {
        if (noMan(man) || what < 0 || what > 1) {
            return NONE;
        }
        int[] best = {0, Integer.MAX_VALUE};
        for (int hour = fort.hours() - 1; hour >= 0; hour--) {
            World w = now.copy();
            w.bed[man] = hour;
            int dreamt = run(w).dreamt(man);
            if (dreamt <= best[1]) {
                best = new int[] {hour, dreamt};
            }
        }
        return best[what];
    }

    int seen(int man, int hour, boolean is) {
        if (noMan(man) || hour < 0 || hour > 9 || seen.size() == 10) {
            return NONE;
        }
        seen.add(new Note(man, hour, is));
        return seen.size();
    }

    private Map<Integer, Outcome> fitting(int g) {
        Map<Integer, Outcome> fits = new java.util.TreeMap<>();
        for (int suspect = 0; suspect < 10; suspect++) {
            if (suspect < men() || suspect == 9) {
                World w = told();
                if (suspect < 9) {
                    w.dreams[suspect] += g;
                }
                Outcome o = run(w);
                if (seen.stream().allMatch(s -> (o.wokenAt[s.man()] == s.thing()) == s.is())) {
                    fits.put(suspect, o);
                }
            }
        }
        return fits;
    }

    int who(int g, int i) {
        if (fort == null || g < 1 || g > 9) {
            return NONE;
        }
        List<Integer> fits = new ArrayList<>(fitting(g).keySet());
        return i == NONE ? fits.size() : i < 0 || i >= fits.size() ? NONE : fits.get(i);
    }

    int hourToAsk(int g) {
        if (fort == null || g < 1 || g > 9) {
            return NONE;
        }
        Map<Integer, Outcome> fits = fitting(g);
        if (fits.isEmpty()) {
            return NONE;
        }
        int found = NONE;
        int least = Integer.MAX_VALUE;
        for (int m = 0; m < men(); m++) {
            for (int hour = 0; hour < fort.hours(); hour++) {
                int woken = 0;
                int not = 0;
                for (Outcome o : fits.values()) {
                    if (o.wokenAt[m] == hour) {
                        woken++;
                    } else {
                        not++;
                    }
                }
                if (Math.abs(woken - not) < least) {
                    least = Math.abs(woken - not);
                    found = 10 * m + hour;
                }
            }
        }
        return found;
    }

    int said(int man, int other, boolean woken) {
        if (noMan(man) || noMan(other) || man == other || said.size() == 10) {
            return NONE;
        }
        said.add(new Note(man, other, woken));
        return said.size();
    }

    int liars() {
        if (fort == null) {
            return NONE;
        }
        Outcome o = run(now);
        int bits = 0;
        for (Note note : said) {
            if (o.wokenAt[note.thing()] >= 0 != note.is()) {
                bits |= 1 << note.man();
            }
        }
        return bits;
    }

    int game(int one, int other, int x, int y, int what) {
        if (noMan(one) || noMan(other) || one == other || x < 0 || x > 3 || y < 0 || y > 3 || what < 0 || what > 1) {
            return HIDDEN;
        }
        World w = now.copy();
        w.eyes[one] += x;
        w.eyes[other] += y;
        int player = what == 0 ? one : other;
        int watched = w.ring.get((w.ring.indexOf(player) + 1) % men());
        return 8 - 2 * run(w).nightmares(watched, fort.nightmare()) - (what == 0 ? x : y);
    }

    int rests(int one, int other, int i) {
        if (noMan(one) || noMan(other) || one == other) {
            return NONE;
        }
        List<Integer> found = new ArrayList<>();
        for (int x = 0; x < 4; x++) {
            for (int y = 0; y < 4; y++) {
                boolean rests = true;
                for (int k = 0; k < 4; k++) {
                    rests &= game(one, other, k, y, 0) <= game(one, other, x, y, 0);
                    rests &= game(one, other, x, k, 1) <= game(one, other, x, y, 1);
                }
                if (rests) {
                    found.add(10 * x + y);
                }
            }
        }
        return i == NONE ? found.size() : i < 0 || i >= found.size() ? NONE : found.get(i);
    }

    int odds(int chance) {
        if (fort == null || chance < 0 || chance > 100) {
            return NONE;
        }
        long left = 1000000000;
        for (int k = run(now).gate; k > 0; k--) {
            left = left - left * chance / 100;
        }
        return (int) left;
    }

    int shares(int man, int c) {
        if (noMan(man) || c < 0 || c > 999) {
            return NONE;
        }
        int all = Arrays.stream(now.eyes).sum();
        return all == 0 ? 0 : c * now.eyes[man] / all;
    }

    int watcher(int man) {
        return noMan(man) ? NONE : now.watcher(man);
    }

    int awake(int hour) {
        return noHour(hour) ? NONE : run(now).awakeBits(hour);
    }

    int most(int what) {
        if (fort == null || what < 0 || what > 4) {
            return NONE;
        }
        if (what == 3) {
            return rested();
        }
        if (what == 4) {
            return now.gate;
        }
        int[] row = what == 0 ? now.tired : what == 1 ? Arrays.stream(now.dreamt).map(v -> -v).toArray() : now.eyes;
        int highest = Arrays.stream(row).max().getAsInt();
        int found = 0;
        while (row[found] != highest) {
            found++;
        }
        return found;
    }

    private int rested() {
        World w = now.copy();
        for (int k = 0; k <= 60; k++) {
            if (Arrays.stream(w.tired).sum() == 0) {
                return k;
            }
            if (w.night < 999) {
                pass(w);
            }
        }
        return NONE;
    }

    int spare(int man) {
        return noMan(man) ? NONE : fort.hours() - needs(man);
    }

    int image() {
        if (fort == null) {
            return NONE;
        }
        image = now.copy();
        return now.night;
    }

    int back() {
        if (image == null) {
            return NONE;
        }
        now = image.copy();
        acts.clear();
        return now.night;
    }

    int count(int what) {
        if (what < 0 || what > 11) {
            return HIDDEN;
        }
        boolean none = fort == null;
        return new int[] {men(), laws.size(), tape.length(), holds, none ? 0 : now.night,
            none ? 0 : Arrays.stream(now.tired).sum(), none ? 0 : Arrays.stream(now.dreamt).sum(), snow,
            seen.size(), said.size(), none ? 0 : now.log.size(), acts.size()}[what];
    }
}
