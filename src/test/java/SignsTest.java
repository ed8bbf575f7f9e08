/** Every text of a few signs behind some beginnings: its fault is where the other grammar finds it. */
public final class SignsTest {
    /** Four calls for each: an object is used for at most 512. */
    private static final int TEXTS_OF_OBJECT = 100;

    private final Check check = new Check();
    private DreamGuard guard = new DreamGuard();
    private int texts = 0;

    private SignsTest() { }

    public static void main(String[] args) {
        SignsTest test = new SignsTest();
        test.goOn(0, "", "sm;nhb109 ", 4);
        test.goOn(0, "m;m", "sm;nhb10 ", 4);
        test.goOn(0, "sh4;m;m", "sm;nb459 ", 4);
        test.goOn(0, "m;m;m;m;m", "sm; ", 5);
        test.goOn(1, "", "y:d=?; ", 5);
        test.goOn(1, "y:", "d1!()?=;[]+y:&|", 4);
        test.goOn(1, "y:!(d=1)", "d1!()?=;[]+&|", 3);
        test.goOn(1, "y:((((((", "d1!()?=[]", 4);
        test.goOn(1, "y:[[[[[[", "d1!()?=[]+", 3);
        test.goOn(1, "y:!!!!!", "d1!()?=[]", 4);
        test.goOn(1, "y:", "01 +", 6);
        test.check.finish();
    }

    private void goOn(int sort, String text, String signs, int more) {
        texts++;
        if (texts % TEXTS_OF_OBJECT == 0) {
            guard = new DreamGuard();
        }
        guard.end(0);
        Check.feed(guard, text);
        check.same("fault(" + sort + ") of \"" + text + "\"", guard.fault(sort), Grammar.fault(sort, text));
        for (int k = 0; k < signs.length() && more > 0; k++) {
            goOn(sort, text + signs.charAt(k), signs, more - 1);
        }
    }
}
