import java.util.ArrayList;
import java.util.List;
import java.util.NoSuchElementException;

/** All that can be asked of an object, as rows of calls with their answers; each view by less than 512 calls. */
final class View {
    private final DreamGuard x;
    private final List<String> rows = new ArrayList<>();

    private View(DreamGuard x) {
        this.x = x;
    }

    private void add(String call, long answer) {
        rows.add(call + " = " + answer);
    }

    /** What can be asked without a change, but for status. */
    static List<String> of(DreamGuard x) {
        View view = new View(x);
        view.addCounts();
        view.addMen();
        view.addLog();
        view.addNight();
        view.addSearches();
        return view.rows;
    }

    /** What only undoing shows: the acts that can be undone. */
    static List<String> undone(DreamGuard x) {
        View view = new View(x);
        int left = 0;
        for (int k = 0; k <= 40 && left != DreamGuard.NONE; k++) {
            left = x.undo();
            view.add("undo()", left);
            if (k < 9) {
                view.addMen();
                view.add("rule(2)", x.rule(2));
                view.add("log(0, 0)", x.log(0, 0));
                view.add("count(10)", x.count(10));
            }
        }
        return view.rows;
    }

    /** What only going back and other laws show: the image, the laws. */
    static List<String> broughtBack(DreamGuard x) {
        View view = new View(x);
        view.add("back()", x.back());
        view.addCounts();
        view.addMen();
        view.addLog();
        for (int law = 0; law < x.count(1); law++) {
            view.add("law(" + law + ")", x.law(law) ? 1 : 0);
            view.addNight();
        }
        return view.rows;
    }

    /** What only cutting the tape shows: its bytes. */
    static List<String> cut(DreamGuard x) {
        View view = new View(x);
        for (int n = x.count(2); n >= 0; n -= 2) {
            view.add("end(" + n + ")", x.end(n) ? 1 : 0);
            view.add("fault(0)", x.fault(0));
            view.add("fault(1)", x.fault(1));
        }
        return view.rows;
    }

    static int[] status(DreamGuard x) {
        int[] row = new int[5];
        for (int what = 0; what < 5; what++) {
            row[what] = x.status(what);
        }
        return row;
    }

    private void addCounts() {
        for (int what = 0; what <= 11; what++) {
            add("count(" + what + ")", x.count(what));
        }
        for (int what = 0; what < 3; what++) {
            add("rule(" + what + ")", x.rule(what));
        }
        add("fault(0)", x.fault(0));
        add("fault(1)", x.fault(1));
    }

    private void addMen() {
        for (int man = 0; man < x.count(0); man++) {
            for (int what = 0; what < 7; what++) {
                add("man(" + man + ", " + what + ")", man(x, man, what));
            }
            add("watcher(" + man + ")", x.watcher(man));
            add("spare(" + man + ")", x.spare(man));
            add("shares(" + man + ", 500)", x.shares(man, 500));
        }
        for (int what = 0; what < 5; what++) {
            add("most(" + what + ")", x.most(what));
        }
    }

    private void addLog() {
        for (int i = 0; i < x.count(10); i++) {
            for (int what = 0; what < 3; what++) {
                add("log(" + i + ", " + what + ")", x.log(i, what));
            }
        }
    }

    private void addNight() {
        for (int hour = 0; hour < x.rule(0); hour++) {
            for (int man = 0; man < x.count(0); man++) {
                add("sleeps(" + man + ", " + hour + ")", x.sleeps(man, hour));
                add("dream(" + man + ", " + hour + ")", x.dream(man, hour));
            }
            add("awake(" + hour + ")", x.awake(hour));
        }
        for (int what = 0; what < 5; what++) {
            add("night(" + what + ")", x.night(what));
        }
        add("odds(7)", x.odds(7));
        add("liars()", x.liars());
    }

    private void addSearches() {
        for (int what = 0; what < 2; what++) {
            add("stagger(" + what + ")", x.stagger(what));
            add("ring(" + what + ")", x.ring(what));
        }
        for (int g = 1; g <= 9; g++) {
            add("who(" + g + ", NONE)", x.who(g, DreamGuard.NONE));
            add("who(" + g + ", 0)", x.who(g, 0));
            add("hourToAsk(" + g + ")", x.hourToAsk(g));
        }
        for (int man = 0; man < x.count(0); man++) {
            add("best(" + man + ", 0)", x.best(man, 0));
            add("slept(" + man + ", 0)", x.slept(man, 0));
            add("slept(" + man + ", 1)", x.slept(man, 1));
        }
        add("rests(0, 1, NONE)", x.rests(0, 1, DreamGuard.NONE));
        add("game(0, 1, 1, 2, 0)", x.game(0, 1, 1, 2, 0));
    }

    /** HIDDEN stands for the exception. */
    static int man(DreamGuard x, int man, int what) {
        try {
            return x.man(man, what);
        } catch (NoSuchElementException e) {
            return DreamGuard.HIDDEN;
        }
    }

    /** The same of all men. */
    static int[] men(DreamGuard x, int what) {
        int[] row = new int[x.count(0)];
        for (int man = 0; man < row.length; man++) {
            row[man] = man(x, man, what);
        }
        return row;
    }
}
