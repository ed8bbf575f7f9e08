/** The edges of a LAW's text, and of what it is worth. */
final class LawEdges {
    private static final int NONE = Edges.NONE;
    private final Edges edges;

    LawEdges(Edges edges) {
        this.edges = edges;
    }

    void run() {
        fourLaws();
        clauses();
        conditions();
        units();
        sums();
        numbers();
        conditionBehindSign();
        depth();
        blanks();
        faults();
        bounds();
        division();
        firstThatHolds();
    }

    private void fault(String text, int due) {
        edges.same("fault(1) of \"" + text + "\"", Check.faultOf(1, text), due);
        DreamGuard x = new DreamGuard();
        Check.feed(x, text);
        edges.same("fault(1) changes nothing", x.fault(1) == due && x.fault(1) == due ? 1 : 0, 1);
        edges.same("text(1) of \"" + text + "\"", x.text(1), due == NONE ? 0 : NONE);
        edges.same("the tape of \"" + text + "\"", x.count(2), due == NONE ? 0 : text.length());
    }

    /** The dream of a man with 4 dreams in hour 2, his third asleep, watched with 7 eyes, in night 1. */
    private void worth(String law, int due) {
        DreamGuard x = Check.fort("sn20;mn5d4;mn0e7");
        x.nights(1);
        Check.addLaw(x, law);
        edges.same("dream by " + law, x.dream(0, 2), due);
    }

    private void fourLaws() {
        edges.sentence("LAWS (4 at most)");
        DreamGuard x = Check.fort("m;m");
        for (int law = 0; law < 4; law++) {
            Check.feed(x, "y:" + (law + 5));
            edges.same("text(1)", x.text(1), law);
            edges.same("LAWS", x.count(1), law + 1);
            edges.same("the TAPE", x.count(2), 0);
        }
        Check.feed(x, "y:9");
        edges.same("text(1) of a fifth", x.text(1), NONE);
        edges.same("LAWS", x.count(1), 4);
        edges.same("the TAPE", x.count(2), 3);
        edges.fails("law(4)", x.law(4));
        for (int law = 3; law >= 0; law--) {
            edges.holds("law", x.law(law));
            edges.same("the dream by law " + law, x.dream(0, 0), law + 5);
        }
    }

    private void clauses() {
        edges.sentence("CLAUSES with ; between, one at least: y, : , perhaps CONDITION ?, then SUM");
        fault("", 0);
        fault(";", 0);
        fault("y:1;", 4);
        fault("y:1;;y:1", 4);
        fault("y:1", NONE);
        fault("y:1;y:2", NONE);
        fault("y:1" + ";y:2".repeat(59), NONE);
        fault("y", 1);
        fault("y1", 1);
        fault("y:", 2);
        fault("y;", 1);
        fault("x:1", 0);
        fault("Y:1", 0);
        fault("y:d=1?1", NONE);
        fault("y:d=1", 5);
        fault("y:d=1;", 5);
        fault("y:d=1?", 6);
        fault("y:?1", 2);
        fault("y:d?1", 3);
        fault("y:d=1?1?1", 7);
        fault("y:1 y:1", 4);
    }

    private void conditions() {
        edges.sentence("CONDITION: TRUTHS with | between; TRUTH: UNITS with & between;");
        fault("y:d=1|d=2?1", NONE);
        fault("y:d=1&d=2?1", NONE);
        fault("y:d=1|?1", 6);
        fault("y:d=1&?1", 6);
        fault("y:|d=1?1", 2);
        fault("y:&d=1?1", 2);
        fault("y:d=1||d=2?1", 6);
        fault("y:d=1&|d=2?1", 6);
        fault("y:d=1|d?1", 7);
        fault("y:d=1" + "|d=1".repeat(58) + "?1", NONE);
        worth("y:d=9|d=4&i=2?1;y:2", 1);
        worth("y:d=4|d=9&i=9?1;y:2", 1);
        worth("y:d=9&i=2|d=9?1;y:2", 2);
        worth("y:d=9&d=9|d=4?1;y:2", 1);
    }

    private void units() {
        edges.sentence("UNIT: ! UNIT, ( CONDITION ), or SUM, one of = < >, SUM.");
        fault("y:!d=1?1", NONE);
        fault("y:!?1", 3);
        fault("y:!!d=1?1", NONE);
        fault("y:()?1", 3);
        fault("y:(d=1?1", 6);
        fault("y:(d=1))?1", 7);
        fault("y:(d=1]?1", 6);
        fault("y:(d=1)=1?1", 7);
        fault("y:d=1=1?1", 5);
        fault("y:d=<1?1", 4);
        fault("y:d!1?1", 3);
        fault("y:d=?1", 4);
        fault("y:=1?1", 2);
        worth("y:d<4?1;y:d<5?2;y:3", 2);
        worth("y:d>4?1;y:d>3?2;y:3", 2);
        worth("y:d=3?1;y:d=5?2;y:d=4?3;y:4", 3);
        worth("y:!d=4|i=2?1;y:2", 1);
        worth("y:!(d=4|i=2)?1;y:2", 2);
    }

    private void sums() {
        edges.sentence("SUM: TERMS with + or - between; TERM: ATOMS with * or / between;");
        fault("y:1+2-3", NONE);
        fault("y:1*2/3", NONE);
        fault("y:+1", 2);
        fault("y:-1", 2);
        fault("y:*1", 2);
        fault("y:1+", 4);
        fault("y:1*", 4);
        fault("y:1+-1", 4);
        fault("y:1*/1", 4);
        fault("y:1+1" + "+1".repeat(117), NONE);
        worth("y:d" + "+w".repeat(15), 19);
        worth("y:20-d-i", 14);
        worth("y:2+d*i", 10);
        worth("y:d*i+2", 10);
        worth("y:20/d/i", 2);
        worth("y:d*i/e", 1);
        worth("y:e*i/d", 3);
        worth("y:e/d*i", 2);
    }

    private void numbers() {
        edges.sentence("ATOM: a number (1 to 4 digits), a letter (d i e h w n), [ SUM ].");
        fault("y:0", NONE);
        fault("y:9", NONE);
        fault("y:99", NONE);
        fault("y:999", NONE);
        fault("y:9999", NONE);
        fault("y:0000", NONE);
        fault("y:00000", 6);
        fault("y:10000", 6);
        fault("y:123456", 6);
        fault("y:d=10000?1", 8);
        fault("y:[10000]", 7);
        fault("y:/", 2);
        fault("y::", 2);
        for (char letter = 'a'; letter <= 'z'; letter++) {
            fault("y:" + letter, "diehwn".indexOf(letter) >= 0 ? NONE : 2);
        }
        fault("y:dd", 3);
        fault("y:d1", 3);
        fault("y:1d", 3);
        fault("y:[]", 3);
        fault("y:[1", 4);
        fault("y:1]", 3);
        fault("y:[1)", 4);
        fault("y:[d=1]?1", 4);
        worth("y:0011", 11);
        worth("y:9999/1000", 9);
    }

    private void conditionBehindSign() {
        edges.sentence("(A CLAUSE that goes on with ! or ( behind its : has a CONDITION.)");
        fault("y:(1)", 4);
        fault("y:(1)+2", 4);
        fault("y:(d)=1?1", 4);
        fault("y:!1", 4);
        fault("y:(d=1)", 7);
        fault("y:!d=1", 6);
        fault("y:!d=1;y:1", 6);
        fault("y:[1]", NONE);
        fault("y:d=1?!d=1", 6);
        fault("y:d=1?(1)", 6);
    }

    private void depth() {
        edges.sentence("At most six of ( [ ! within one another.");
        fault("y:" + "[".repeat(6) + "1" + "]".repeat(6), NONE);
        fault("y:" + "[".repeat(7) + "1" + "]".repeat(7), 8);
        fault("y:" + "(".repeat(6) + "d=1" + ")".repeat(6) + "?1", NONE);
        fault("y:" + "(".repeat(7) + "d=1" + ")".repeat(7) + "?1", 8);
        fault("y:" + "!".repeat(6) + "d=1?1", NONE);
        fault("y:" + "!".repeat(7) + "d=1?1", 8);
        fault("y:d=1?" + "[".repeat(6) + "1" + "]".repeat(6), NONE);
        fault("y:d=1?" + "[".repeat(7) + "1", 12);
        fault("y:!(!(![d]=1))?1", NONE);
        fault("y:!(!(![[d]]=1))?1", 8);
        fault("y:!(!(!d=[[1]]))?1", 10);
        fault("y:!!(!![(d", 8);
        fault("y:[[[d]]]=[[[[[[1]]]]]]?1", NONE);
        fault("y:[[[d]]]=[[[[[[[1]]]]]]]?1", 16);
        edges.sentence("a seventh of ( [ ! at it");
        fault("y:[[[[[[[", 8);
        fault("y:[[[[[[ [", 9);
        fault("y:!!!!!!(", 8);
        fault("y:!!!!!![", 8);
        fault("y:((((((!", 8);
        fault("y:(((((([", 8);
        fault("y:!!!!!!", 8);
        fault("y:((((((", 8);
        edges.sentence("within one another.");
        fault("y:" + "[1]+".repeat(7) + "[1]", NONE);
        fault("y:" + "!d=1&".repeat(7) + "!d=1?1", NONE);
        fault("y:" + "(d=1)|".repeat(7) + "(d=1)?1", NONE);
        worth("y:!!!!!!d=4?1;y:2", 1);
        worth("y:!!!!!d=4?1;y:2", 2);
        worth("y:[[[[[[d]]]]]]*2", 8);
    }

    private void blanks() {
        edges.sentence("Blanks (32) may stand between all signs of both, not within numbers.");
        String[] signs = {"y", ":", "!", "(", "d", ">", "1", "&", "w", "<", "90", ")", "|", "e", "=", "2", "?", "[", "i",
            "-", "e", "*", "2", "]", "/", "9", ";", "y", ":", "h", "+", "1234"};
        for (int gap = 0; gap <= signs.length; gap++) {
            StringBuilder text = new StringBuilder();
            for (int k = 0; k <= signs.length; k++) {
                text.append(k == gap ? "  " : "").append(k < signs.length ? signs[k] : "");
            }
            fault(text.toString(), NONE);
        }
        fault(" " + String.join(" ", signs) + " ", NONE);
        fault("y:1 2", 4);
        fault("y:123 4", 6);
        fault("y:1234 5", 7);
        for (int sign : new int[] {1, 9, 10, 13, 31, 127, 160, 255}) {
            fault("y:1" + (char) sign, 3);
            fault("y" + (char) sign + ":1", 1);
        }
        worth(" y : d = 4 ? [ d + i ] * 2 ", 12);
    }

    private void faults() {
        edges.sentence("FAULT: the first byte at which no such TEXT can go on (the length, if it ends too early,");
        String whole = "y:!(d>1&w<9)|e=2?[i-e*2]/9";
        int wholeToo = whole.indexOf("/9");
        for (int length = 0; length < whole.length(); length++) {
            fault(whole.substring(0, length), length == wholeToo ? NONE : length);
        }
        fault(whole, NONE);
        fault(whole + "]", 26);
        fault("  ", 2);
        edges.sentence("a third digit (a fifth one in a LAW) itself, whatever stands ahead of it");
        fault("y:99999", 6);
        fault("y:000000", 6);
        fault("y:d=00001?1", 8);
    }

    private void bounds() {
        edges.sentence("Behind each sign numbers are within -1,000,000 .. 1,000,000;");
        worth("y:999*1001-9999*100-96", 3);
        worth("y:999*1001+1-999*1001", 1);
        worth("y:999*1001+2-999*1001", 1);
        worth("y:999*1001+9999-999*1001", 1);
        worth("y:1000*1000-999*1001", 1);
        worth("y:1001*1000-1000*1000+3", 3);
        worth("y:9999*9999*9999-1000*1000+3", 3);
        worth("y:0-999*1001-1+1000*1000", 0);
        worth("y:0-999*1001-1+999*1001+5", 4);
        worth("y:0-999*1001-2+999*1001+5", 4);
        worth("y:0-999*1001-9999+999*1001+5", 4);
        worth("y:[0-1000]*1000+999*1001+5", 4);
        worth("y:[0-1001]*1000+1000*1000+5", 5);
        worth("y:[0-9999]*9999*9999+1000*1000+5", 5);
        worth("y:[0-9999]*9999*[0-9999]-999*1001", 1);
        worth("y:1000*1000=1000*1000+1?7", 7);
        worth("y:999*1001+1>999*1001?7", 7);
        worth("y:1000*1000+1>1000*1000?7", 0);
    }

    private void division() {
        edges.sentence("/ cuts towards 0, by 0 gives 0.");
        worth("y:7/2", 3);
        worth("y:[0-7]/2+5", 2);
        worth("y:7/[0-2]+5", 2);
        worth("y:[0-7]/[0-2]", 3);
        worth("y:1/2", 0);
        worth("y:[0-1]/2+5", 5);
        worth("y:7/0+5", 5);
        worth("y:0/0+5", 5);
        worth("y:[0-7]/0+5", 5);
        worth("y:7/[d-4]+5", 5);
        worth("y:0/7+5", 5);
    }

    private void firstThatHolds() {
        edges.sentence("WORTH: the SUM of the first CLAUSE whose CONDITION holds (or has none), 0 without.");
        worth("y:d=4?5;y:d=4?6;y:7", 5);
        worth("y:d=3?5;y:d=4?6;y:7", 6);
        worth("y:d=3?5;y:d=5?6;y:7", 7);
        worth("y:d=3?5;y:d=5?6", 0);
        worth("y:5;y:d=4?6", 5);
        worth("y:d=3?5", 0);
        worth("y:d=3?1" + ";y:d=3?1".repeat(28) + ";y:9", 9);
    }
}
