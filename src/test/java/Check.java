/** What the tests share: feeding texts, comparing answers, and the exit code. */
final class Check {
    private int wrong = 0;
    private int made = 0;

    void same(String call, long got, long due) {
        made++;
        if (got != due) {
            wrong++;
            System.out.println(call + " answered " + got + ", due is " + due);
        }
    }

    void holds(String call, boolean got) {
        same(call, got ? 1 : 0, 1);
    }

    void fails(String call, boolean got) {
        same(call, got ? 1 : 0, 0);
    }

    /** Ends the program with 1, if an answer was not the one that is due. */
    void finish() {
        System.out.println(made + " answers looked at, " + wrong + " not as due");
        if (wrong != 0) {
            System.exit(1);
        }
    }

    /** Feeds a text by twenty bytes; the last answer of feed. */
    static int feed(DreamGuard guard, String text) {
        int answer = guard.count(2);
        for (int from = 0; from < text.length(); from += 20) {
            int[] words = new int[5];
            for (int k = 0; k < 20 && from + k < text.length(); k++) {
                words[k / 4] |= (text.charAt(from + k) & 255) << (24 - 8 * (k % 4));
            }
            answer = guard.feed(words[0], words[1], words[2], words[3], words[4]);
        }
        return answer;
    }

    static DreamGuard fort(String text) {
        DreamGuard guard = new DreamGuard();
        addFort(guard, text);
        return guard;
    }

    static void addFort(DreamGuard guard, String text) {
        guard.end(0);
        feed(guard, text);
        if (guard.text(0) == DreamGuard.NONE) {
            throw new IllegalStateException("no fort: " + text);
        }
    }

    /** Adds a law, which holds then. */
    static void addLaw(DreamGuard guard, String text) {
        guard.end(0);
        feed(guard, text);
        int law = guard.text(1);
        if (law == DreamGuard.NONE || !guard.law(law)) {
            throw new IllegalStateException("no law: " + text);
        }
    }

    static int faultOf(int sort, String text) {
        DreamGuard guard = new DreamGuard();
        feed(guard, text);
        return guard.fault(sort);
    }
}
