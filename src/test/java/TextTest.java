/** Promises 1 to 5 and 8: a new object, the tape, faults, texts, the law that holds. */
public final class TextTest {
    private static final Check CHECK = new Check();

    private TextTest() { }

    public static void main(String[] args) {
        newObject();
        feeding();
        ending();
        fortFaults();
        fortNumbers();
        lawFaults();
        lawDepth();
        textsOfForts();
        textsOfLaws();
        worths();
        CHECK.finish();
    }

    private static void newObject() {
        DreamGuard x = new DreamGuard();
        for (int what = 0; what <= 11; what++) {
            CHECK.same("count(" + what + ") of a new object", x.count(what), what == 3 ? DreamGuard.NONE : 0);
        }
        for (int what = 0; what < 3; what++) {
            CHECK.same("rule of a new object", x.rule(what), DreamGuard.NONE);
        }
        for (int what = 0; what < 5; what++) {
            CHECK.same("status of a new object", x.status(what), 0);
        }
    }

    private static void feeding() {
        DreamGuard x = new DreamGuard();
        CHECK.same("feed of nothing", x.feed(0, 0, 0, 0, 0), 0);
        CHECK.same("feed leaves bytes of 0 out", x.feed(0x6d003b00, 0, 0x0000006d, 0, 0), 3);
        CHECK.same("the bytes are m;m", x.fault(0), DreamGuard.NONE);
        DreamGuard y = new DreamGuard();
        for (int k = 1; k <= 12; k++) {
            CHECK.same("feed " + k, y.feed(-1, -1, -1, -1, -1), 20 * k);
        }
        CHECK.same("feed beyond 240", y.feed(0, 0, 1, 0, 0), DreamGuard.NONE);
        CHECK.same("feed of nothing at 240", y.feed(0, 0, 0, 0, 0), 240);
        CHECK.holds("end(230)", y.end(230));
        CHECK.same("feed of 11", y.feed(-1, -1, 0x00010101, 0, 0), DreamGuard.NONE);
        CHECK.same("what is refused changes nothing", y.count(2), 230);
        CHECK.same("feed of 10", y.feed(-1, -1, 0x00010001, 0, 0), 240);
        CHECK.holds("end(239)", y.end(239));
        CHECK.same("feed of 2 at the end", y.feed(0, 0, 0, 0x01000000, 1), DreamGuard.NONE);
        CHECK.same("feed of 2 at the end", y.feed(0, 0, 0, 0x01010000, 0), DreamGuard.NONE);
        CHECK.same("feed of 2 at the end", y.feed(0, 0, 0, 0, 0x00010100), DreamGuard.NONE);
        CHECK.same("feed of 1 at the end", y.feed(0, 0, 0, 0, 1), 240);
    }

    private static void ending() {
        DreamGuard x = new DreamGuard();
        CHECK.holds("end(0) when empty", x.end(0));
        CHECK.fails("end(1) when empty", x.end(1));
        Check.feed(x, "m;m;x");
        CHECK.fails("end(-1)", x.end(-1));
        CHECK.fails("end(6)", x.end(6));
        CHECK.same("bytes", x.count(2), 5);
        CHECK.holds("end(5)", x.end(5));
        CHECK.same("fault", x.fault(0), 4);
        CHECK.holds("end(3)", x.end(3));
        CHECK.same("bytes", x.count(2), 3);
        CHECK.same("fault", x.fault(0), DreamGuard.NONE);
        Check.feed(x, ";m");
        CHECK.same("text", x.text(0), 3);
    }

    private static void fort(String text, int due) {
        CHECK.same("fault(0) of \"" + text + "\"", Check.faultOf(0, text), due);
    }

    private static void fortFaults() {
        CHECK.same("fault(-1)", new DreamGuard().fault(-1), -2);
        CHECK.same("fault(2)", new DreamGuard().fault(2), -2);
        fort("", 0);
        fort("   ", 3);
        fort("m;m", -1);
        fort("  m ; m  ", -1);
        fort("s;m;m", -1);
        fort("m;s;m", -1);
        fort("m;m;s", -1);
        fort("m", 1);
        fort("m ", 2);
        fort("m;", 2);
        fort("m;m;", 4);
        fort(";m;m", 0);
        fort("m;;m", 2);
        fort("mm", 1);
        fort("x;m", 0);
        fort("m;m x", 4);
        fort("m;m\u00e9", 3);
        fort("s;m;s;m", 4);
        fort("m;m;m;m;m;m", -1);
        fort("m;m;m;m;m;m;s", -1);
        fort("s;m;m;m;m;m;m;", 14);
        fort("s;m;m;m;m;m;m;m", 14);
        fort("m;m;m;m;m;m; m", 13);
        fort("sh8n7c20;mn3d3e5b0;mb0e5d3n3", -1);
        fort("sh8h8;m;m", 3);
        fort("mn1d1n1;m", 5);
        fort("sd1;m;m", 1);
        fort("mh4;m", 1);
        fort("mc4;m", 1);
        fort("mn", 2);
        fort("mn ", 3);
        fort("mn;m", 2);
        fort("mnd1;m", 2);
        fort("mn1 2;m", 4);
        fort("m1;m", 1);
        fort("m;mn8", -1);
        fort("m;mn9", 5);
        fort("mn9;m", 5);
        fort("mb8;m", 5);
        fort("m;mn9;sh9", -1);
        fort("sh4;m;mn5 ", 10);
        fort("sh4;m;mb3", -1);
        fort("sh4;m;mb4", 9);
        fort("m;mb8", 5);
        fort("m;mb9;sh10", -1);
        fort("mn9;m;", 6);
        fort("mn9;x", 4);
    }

    private static void fortNumbers() {
        fort("sh4;m;m", -1);
        fort("sh3;m;m", 2);
        fort("sh10;m;m", -1);
        fort("sh11;m;m", 3);
        fort("sh1", 2);
        fort("sh04;m;m", -1);
        fort("sh03;m;m", 3);
        fort("sh1 0;m;m", 2);
        fort("sh  10 ;m;m", -1);
        fort("sh100;m;m", 4);
        fort("sh999;m;m", 4);
        fort("sh0009;m;m", 4);
        fort("sn0;m;m", 2);
        fort("sn00;m;m", 3);
        fort("sn01;m;m", -1);
        fort("sn20;m;m", -1);
        fort("sn21;m;m", 3);
        fort("sc0;m;m", -1);
        fort("sc99;m;m", -1);
        fort("sc100;m;m", 4);
        fort("mn10;m;sh10", -1);
        fort("mn11;m;sh10", 3);
        fort("md9;m", -1);
        fort("md10;m", 3);
        fort("md09;m", -1);
        fort("me9;m", -1);
        fort("me10;m", 3);
        fort("mb9;m;sh10", -1);
        fort("mb10;m;sh10", 3);
        fort("me123;m", 4);
    }

    private static void law(String text, int due) {
        CHECK.same("fault(1) of \"" + text + "\"", Check.faultOf(1, text), due);
    }

    private static void lawFaults() {
        law("", 0);
        law(" ", 1);
        law("y", 1);
        law("y:", 2);
        law("x:1", 0);
        law("y1", 1);
        law("y:1", -1);
        law(" y : 1 ", -1);
        law("y:1;", 4);
        law("y:1;y:2", -1);
        law("y:1;;", 4);
        law("y:1;m", 4);
        law("y:d+i-e*h/w+n", -1);
        law("y:c", 2);
        law("y:-1", 2);
        law("y:1+", 4);
        law("y:1+;", 4);
        law("y:1++1", 4);
        law("y:1 1", 4);
        law("y:1d", 3);
        law("y:9999", -1);
        law("y:12345", 6);
        law("y:00001", 6);
        law("y:123 4", 6);
        law("y:[1]", -1);
        law("y:[1", 4);
        law("y:[]", 3);
        law("y:[1)", 4);
        law("y:1]", 3);
        law("y:(1)", 4);
        law("y:(1)+1", 4);
        law("y:d?1", 3);
        law("y:?1", 2);
        law("y:d=1?1", -1);
        law("y:d=1", 5);
        law("y:d=1;", 5);
        law("y:d=1?", 6);
        law("y:d=1?;", 6);
        law("y:d==1?1", 4);
        law("y:d<1?1;y:d>1?2;y:3", -1);
        law("y:d=1=1?1", 5);
        law("y:d=1&e=1|w=1?1", -1);
        law("y:d&e=1?1", 3);
        law("y:d=1&?1", 6);
        law("y:d=1|&e=1?1", 6);
        law("y:!d=1?1", -1);
        law("y:!d?1", 4);
        law("y:!!d=1?1", -1);
        law("y:!(d=1)&(e=2|!w=1)?[d+1]*2", -1);
        law("y:!1", 4);
        law("y:(d=1)=1?1", 7);
        law("y:(d=1)", 7);
        law("y:(d=1?1", 6);
        law("y:()?1", 3);
        law("y:(d=1))?1", 7);
        law("y:[d]=1?1", -1);
        law("y:[d=1]?1", 4);
        law("y:d=(1)?1", 4);
        law("y:d=!1?1", 4);
        law("y:d=1?!d=1", 6);
        law("y:d=1?d=1", 7);
        law("y:d=1?d?1", 7);
        law("y:1\u00e9", 3);
    }

    private static void lawDepth() {
        law("y:[[[[[[1]]]]]]", -1);
        law("y:[[[[[[[1]]]]]]]", 8);
        law("y:((((((d=1))))))?1", -1);
        law("y:(((((((d=1)))))))?1", 8);
        law("y:!!!!!!d=1?1", -1);
        law("y:!!!!!!!d=1?1", 8);
        law("y:!(!(!(d=1)))?1", -1);
        law("y:!(!(!([d]=1)))?1", 8);
        law("y:!(!(!(d=[1])))?1", 10);
        law("y:!(!([[d]]=1&[[e]]=2))?[[[[[[1]]]]]]", -1);
        law("y:[1]+[1]+[1]+[1]+[1]+[1]+[1]+[1]", -1);
        law("y:!d=1&!d=1&!d=1&!d=1&!d=1&!d=1&!d=1?1", -1);
    }

    private static void textsOfForts() {
        DreamGuard x = new DreamGuard();
        CHECK.same("text(0) of nothing", x.text(0), DreamGuard.NONE);
        Check.feed(x, "m;m;m");
        CHECK.same("text(-1)", x.text(-1), DreamGuard.NONE);
        CHECK.same("text(2)", x.text(2), DreamGuard.NONE);
        CHECK.same("text(1) of a fort", x.text(1), DreamGuard.NONE);
        CHECK.same("the tape stays", x.count(2), 5);
        CHECK.same("text(0)", x.text(0), 3);
        CHECK.same("the tape is empty", x.count(2), 0);
        CHECK.same("HOURS untold", x.rule(0), 8);
        CHECK.same("NIGHTMARE untold", x.rule(1), 7);
        CHECK.same("COINS untold", x.rule(2), 20);
        int[] untold = {3, 3, 5, 0, 0, 0, 2};
        for (int what = 0; what < 7; what++) {
            CHECK.same("man(2, " + what + ") untold", x.man(2, what), untold[what]);
        }
        another(x);
    }

    /** Another fort: what goes and what stays. */
    private static void another(DreamGuard x) {
        Check.addLaw(x, "y:d");
        x.snow(4);
        x.bed(0, 3);
        x.bed(9, 0);
        x.swap(0, 2);
        x.nights(3);
        x.image();
        x.seen(0, 0, true);
        x.said(0, 1, true);
        Check.feed(x, "m;");
        CHECK.same("a fault", x.text(0), DreamGuard.NONE);
        CHECK.same("nothing has changed", x.count(4), 3);
        x.end(0);
        Check.addFort(x, "sh9n20c99;m n 09 d8 e7 b6;me0b8d0n0");
        int[] due = {2, 1, 0, 0, 0, 0, 0, 4, 0, 0, 0, 0};
        for (int what = 0; what <= 11; what++) {
            CHECK.same("count(" + what + ") of another fort", x.count(what), due[what]);
        }
        CHECK.same("back() to another fort's image", x.back(), DreamGuard.NONE);
        CHECK.same("undo() of another fort's acts", x.undo(), DreamGuard.NONE);
        CHECK.same("log of another fort", x.log(0, 0), DreamGuard.NONE);
        CHECK.same("status stays", x.status(0), 1);
        CHECK.same("GATE is gone", x.most(4), 0);
        int[][] told = {{9, 8, 7, 6, 0, 0, 0}, {0, 0, 0, 8, 0, 0, 1}};
        for (int man = 0; man < 2; man++) {
            for (int what = 0; what < 7; what++) {
                CHECK.same("man(" + man + ", " + what + ") of another fort", x.man(man, what), told[man][what]);
            }
        }
        CHECK.same("HOURS", x.rule(0), 9);
        CHECK.same("NIGHTMARE", x.rule(1), 20);
        CHECK.same("COINS", x.rule(2), 99);
    }

    private static void textsOfLaws() {
        DreamGuard x = Check.fort("m;m");
        CHECK.fails("law(0) of none", x.law(0));
        CHECK.holds("law(NONE)", x.law(DreamGuard.NONE));
        for (int k = 0; k < 4; k++) {
            Check.feed(x, "y:" + (k + 1));
            CHECK.same("text(1)", x.text(1), k);
            CHECK.same("the tape is empty", x.count(2), 0);
            CHECK.same("LAWS", x.count(1), k + 1);
        }
        Check.feed(x, "y:9");
        CHECK.same("a fifth law", x.text(1), DreamGuard.NONE);
        CHECK.same("the tape stays", x.count(2), 3);
        CHECK.same("fault of a fifth law", x.fault(1), DreamGuard.NONE);
        CHECK.same("no law holds by itself", x.count(3), DreamGuard.NONE);
        CHECK.same("dream by none", x.dream(0, 1), 4);
        CHECK.fails("law(4)", x.law(4));
        CHECK.fails("law(-2)", x.law(-2));
        CHECK.holds("law(3)", x.law(3));
        CHECK.holds("law(3) again", x.law(3));
        CHECK.same("the law that holds", x.count(3), 3);
        CHECK.same("dream", x.dream(0, 1), 4);
        CHECK.holds("law(1)", x.law(1));
        CHECK.same("dream", x.dream(0, 1), 2);
        CHECK.fails("law(9)", x.law(9));
        CHECK.same("what is refused changes nothing", x.count(3), 1);
        CHECK.holds("law(NONE)", x.law(DreamGuard.NONE));
        CHECK.same("dream by none again", x.dream(0, 0), 3);
        CHECK.same("NONE holds", x.count(3), DreamGuard.NONE);
    }

    /** The dream of man 0 in hour 2 (his third asleep), watched by man 2 with 7 eyes, in night 1. */
    private static void worth(String law, int due) {
        DreamGuard x = Check.fort("sh8n20;mn5d4b0;mn0;mn1e7b6");
        x.nights(1);
        Check.addLaw(x, law);
        CHECK.same("dream by " + law, x.dream(0, 2), due);
    }

    private static void worths() {
        worth("y:d", 4);
        worth("y:i", 2);
        worth("y:e", 7);
        worth("y:h", 2);
        worth("y:w", 1);
        worth("y:n", 1);
        worth("y:d+i*e", 18);
        worth("y:d*i+e", 15);
        worth("y:[d+i]*2", 12);
        worth("y:20-e-d", 9);
        worth("y:20-[e-d]", 17);
        worth("y:18/d/i", 2);
        worth("y:18/[d/i]", 9);
        worth("y:7/0+3", 3);
        worth("y:[0-7]/2+9", 6);
        worth("y:e/2", 3);
        worth("y:h=2?9999", 20);
        worth("y:h=2?20", 20);
        worth("y:h=2?21", 20);
        worth("y:0-9999", 0);
        worth("y:1000*1000*1000/9999/10", 10);
        worth("y:1000*1000+5-9999*100-85-8", 7);
        worth("y:0-1000*1000-50+1000*1000+7", 7);
        worth("y:[0-9999]*9999+9999*100+95+9", 4);
        worth("y:d=4?5;y:6", 5);
        worth("y:d=5?5;y:6", 6);
        worth("y:d=5?5", 0);
        worth("y:d<5?5;y:6", 5);
        worth("y:d<4?5;y:6", 6);
        worth("y:d>3?5;y:6", 5);
        worth("y:d>4?5;y:6", 6);
        worth("y:6;y:d=4?5", 6);
        worth("y:d=5?1;y:d=6?2;y:d=4?3;y:4", 3);
        worth("y:d=4&e=7?1;y:2", 1);
        worth("y:d=4&e=8?1;y:2", 2);
        worth("y:d=4|e=8?1;y:2", 1);
        worth("y:d=5|e=8?1;y:2", 2);
        worth("y:d=4|e=7&i=9?1;y:2", 1);
        worth("y:[d]=4?1;y:2", 1);
        worth("y:(d=4|e=7)&i=9?1;y:2", 2);
        worth("y:!d=4?1;y:2", 2);
        worth("y:!d=5?1;y:2", 1);
        worth("y:!!d=4?1;y:2", 1);
        worth("y:!d=4|e=7?1;y:2", 1);
        worth("y:!(d=4|e=7)?1;y:2", 2);
        worth("y:!d=5&e=7?1;y:2", 1);
        worth("y:d=4|d=4|d=4?3", 3);
        worth("y:d" + "+w-w".repeat(58) + "+w+w", 6);
        worth("y:d+1=i+3&d>i?0011", 11);
        worth(" y : ! ( d = 5 ) ? [ d + 1 ] * 2 ; y : 3 ", 10);
    }
}
