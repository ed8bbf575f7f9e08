/** The edges of a FORT's text. */
final class FortEdges {
    private static final int NONE = Edges.NONE;
    private final Edges edges;

    FortEdges(Edges edges) {
        this.edges = edges;
    }

    void run() {
        clauses();
        men();
        items();
        digits();
        ruleNumbers();
        manNumbers();
        numbersOfHours();
        blanks();
        faults();
    }

    private void fault(String text, int due) {
        edges.same("fault(0) of \"" + text + "\"", Check.faultOf(0, text), due);
        DreamGuard x = new DreamGuard();
        Check.feed(x, text);
        edges.same("fault(0) changes nothing", x.fault(0) == due && x.fault(0) == due ? 1 : 0, 1);
        edges.same("text(0) of \"" + text + "\" is refused", x.text(0) == NONE ? 1 : 0, due == NONE ? 0 : 1);
        edges.same("the tape of \"" + text + "\"", x.count(2), due == NONE ? 0 : text.length());
    }

    private void clauses() {
        edges.sentence("CLAUSES with ; between: s (its RULES; one at most), m (a MAN; 2 .. 6), in any order");
        fault("m;m", NONE);
        fault("s;m;m", NONE);
        fault("m;s;m", NONE);
        fault("m;m;s", NONE);
        fault("s;s;m;m", 2);
        fault("s;m;m;s", 6);
        fault("m;m;m;m;m;m;s;s", 14);
        fault("m m", 2);
        fault("m;;m", 2);
        fault(";m;m", 0);
        fault("m;m;", 4);
        fault("m;m,", 3);
    }

    private void men() {
        edges.sentence("m (a MAN; 2 .. 6)");
        fault("", 0);
        fault("s", 1);
        fault("m", 1);
        fault("s;m", 3);
        for (int men = 2; men <= 6; men++) {
            String text = "m" + ";m".repeat(men - 1);
            fault(text, NONE);
            DreamGuard x = new DreamGuard();
            Check.feed(x, text);
            edges.same("text(0) of " + text, x.text(0), men);
            edges.same("MEN", x.count(0), men);
        }
        fault("m;m;m;m;m;m;m", 12);
        fault("s;m;m;m;m;m;m;m", 14);
        fault("m;m;m;m;m;m;m;m", 12);
        fault("m;m;m;m;m;m;", 12);
    }

    private void items() {
        edges.sentence("then ITEMS, none or more: a letter, each once at most in a CLAUSE");
        fault("s;m;m", NONE);
        fault("sc1;mb1;m", NONE);
        fault("sc1h5n2;mb1e2n3d4;mn3", NONE);
        fault("sh5h5;m;m", 3);
        fault("sn5c1n5;m;m", 5);
        fault("sc5h9n1c5;m;m", 7);
        fault("mn1n1;m", 3);
        fault("md1n1d1;m", 5);
        fault("me1n1b1e1;m", 7);
        fault("mb1e1d1n1b1;m", 9);
        fault("mn1d1e1b1;mn1d1e1b1;sn1", NONE);
        fault("sd1;m;m", 1);
        fault("se1;m;m", 1);
        fault("sb1;m;m", 1);
        fault("mh8;m", 1);
        fault("mc1;m", 1);
        fault("mm1;m", 1);
        fault("m;mD1", 3);
    }

    private void digits() {
        edges.sentence("and a number (one or two digits)");
        fault("mn;m", 2);
        fault("mn", 2);
        fault("mnd1;m", 2);
        fault("mn/;m", 2);
        fault("mn:;m", 2);
        fault("mn0;m", NONE);
        fault("mn8;m", NONE);
        fault("mn00;m", NONE);
        fault("mn08;m", NONE);
        fault("mn000;m", 4);
        fault("mn0000;m", 4);
        fault("mn-1;m", 2);
        DreamGuard x = Check.fort("mn08d09e04b07;mn8");
        edges.row("man(0, ..)", new int[] {x.man(0, 0), x.man(0, 1), x.man(0, 2), x.man(0, 3)}, 8, 9, 4, 7);
    }

    private void ruleNumbers() {
        edges.sentence("h HOURS of a night (4 .. 10; 8 without)");
        ruleNumber("h", 0, 4, 10, 8);
        edges.sentence("n from how much on a dream is a NIGHTMARE (1 .. 20; 7)");
        ruleNumber("n", 1, 1, 20, 7);
        edges.sentence("c COINS (0 .. 99; 20)");
        ruleNumber("c", 2, 0, 99, 20);
    }

    private void ruleNumber(String letter, int what, int low, int high, int untold) {
        for (int number = 0; number <= 99; number++) {
            boolean within = number >= low && number <= high;
            String text = "s" + letter + number;
            fault(text + ";mn0;mn0", within ? NONE : text.length() - 1);
            if (within) {
                edges.same("rule of " + text, Check.fort("mn0;" + text + ";mn0").rule(what), number);
            }
        }
        fault("s" + letter + "100;mn0;mn0", 4);
        edges.same("rule without " + letter, Check.fort("s;m;m").rule(what), untold);
        edges.same("rule without s", Check.fort("m;m").rule(what), untold);
    }

    private void manNumbers() {
        edges.sentence("n how many hours of sleep he NEEDS (0 .. 10; 3)");
        manNumber("n", 0, 10, 3);
        edges.sentence("d DREAMS (0 .. 9; 3)");
        manNumber("d", 1, 9, 3);
        edges.sentence("e EYES (0 .. 9; 5)");
        manNumber("e", 2, 9, 5);
        edges.sentence("b the HOUR of his BED (0 .. 9; 0)");
        manNumber("b", 3, 9, 0);
    }

    private void manNumber(String letter, int what, int high, int untold) {
        for (int number = 0; number <= 99; number++) {
            String text = "sh10;m" + letter + number;
            fault(text + ";m", number <= high ? NONE : text.length() - 1);
            if (number <= high) {
                DreamGuard x = Check.fort(text + ";m");
                edges.same("man of " + text, x.man(0, what), number);
                edges.same("the other man", x.man(1, what), untold);
            }
        }
        fault("m" + letter + "100;m", 4);
    }

    private void numbersOfHours() {
        edges.sentence("with one who NEEDS more than HOURS or whose BED is not below HOURS");
        for (int hours = 4; hours <= 10; hours++) {
            String rules = "sh" + hours + ";m";
            for (int number = 0; number <= 10; number++) {
                String needs = rules + ";mn" + number;
                fault(needs, number <= hours ? NONE : needs.length());
                String needsAhead = "mn" + number + ";" + rules + " ";
                fault(needsAhead, number <= hours ? NONE : needsAhead.length());
            }
            for (int number = 0; number <= 9; number++) {
                String bed = rules + ";mb" + number;
                fault(bed, number < hours ? NONE : bed.length());
                String bedAhead = "mb" + number + ";" + rules + ";m";
                fault(bedAhead, number < hours ? NONE : bedAhead.length());
            }
        }
        fault("m;mn9", 5);
        fault("m;mn8", NONE);
        fault("m;mb8", 5);
        fault("m;mb7", NONE);
        fault("mn9;x", 4);
        fault("mn9;m;", 6);
    }

    private void blanks() {
        edges.sentence("Blanks (32) may stand between all signs of both, not within numbers.");
        String[] signs = {"s", "h", "10", "n", "20", "c", "9", ";", "m", "n", "3", "d", "0", "e", "9", "b", "07", ";", "m"};
        for (int gap = 0; gap <= signs.length; gap++) {
            StringBuilder text = new StringBuilder();
            for (int k = 0; k <= signs.length; k++) {
                text.append(k == gap ? "  " : "").append(k < signs.length ? signs[k] : "");
            }
            fault(text.toString(), NONE);
        }
        fault(" " + String.join(" ", signs) + " ", NONE);
        fault("mn1 0;m;sh10", 4);
        fault("m;md0 9", 6);
        fault("sc9 9;m;m", 4);
        fault("sc9 99;m;m", 4);
        for (int sign : new int[] {1, 9, 10, 13, 31, 33, 127, 160, 255}) {
            fault("m" + (char) sign + ";m", 1);
            fault("m;m" + (char) sign, 3);
        }
        fault("  ", 2);
        fault("m  ", 3);
    }

    private void faults() {
        edges.sentence("FAULT: the first byte at which no such TEXT can go on (the length, if it ends too early, "
            + "with fewer than two MEN,");
        fault("", 0);
        fault("s", 1);
        fault("sh", 2);
        fault("sh8", 3);
        fault("sh8;", 4);
        fault("m;", 2);
        fault("m;m;", 4);
        fault("m;md", 4);
        fault("m;s", 3);
        fault("x", 0);
        fault("m;mx", 3);
        fault("m;m;x;m;m;m;m;m;m", 4);
        edges.sentence("a number out of bounds is wrong at its last digit");
        fault("sh3;m;m", 2);
        fault("sh03;m;m", 3);
        fault("sh11;m;m", 3);
        fault("sh1;m;m", 2);
        fault("sh1", 2);
        fault("sh99", 3);
        fault("md99;x", 3);
        edges.sentence("a third digit (a fifth one in a LAW) itself, whatever stands ahead of it");
        fault("sc100;m;m", 4);
        fault("sc000;m;m", 4);
        fault("sh999;m;m", 4);
        fault("md123;m", 4);
        fault("sh80808", 4);
        edges.sentence("a letter that was there, a second s, a seventh m,");
        fault("mn3 n", 4);
        fault("sh8h", 3);
        fault("s ; s", 4);
        fault("m;m;m;m;m;m ; m", 14);
    }
}
