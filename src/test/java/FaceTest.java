import java.lang.reflect.Constructor;
import java.lang.reflect.Field;
import java.lang.reflect.Method;
import java.lang.reflect.Modifier;
import java.util.Set;
import java.util.TreeSet;

/** The public face: just what the document lists, and nothing else that could be seen from outside. */
public final class FaceTest {
    private static final String[] FACE = {
        "public DreamGuard()",
        "public static final int DreamGuard.NONE",
        "public static final int DreamGuard.HIDDEN",
        "public int DreamGuard.feed(int,int,int,int,int)",
        "public boolean DreamGuard.end(int)",
        "public int DreamGuard.fault(int)",
        "public int DreamGuard.text(int)",
        "public int DreamGuard.rule(int)",
        "public int DreamGuard.man(int,int) throws java.util.NoSuchElementException",
        "public boolean DreamGuard.law(int)",
        "public int DreamGuard.bed(int,int)",
        "public int DreamGuard.train(int)",
        "public int DreamGuard.dull(int)",
        "public int DreamGuard.swap(int,int)",
        "public int DreamGuard.nights(int)",
        "public boolean DreamGuard.snow(int)",
        "public int DreamGuard.years(int,long)",
        "public int DreamGuard.status(int)",
        "public int DreamGuard.undo()",
        "public int DreamGuard.log(int,int)",
        "public int DreamGuard.sleeps(int,int)",
        "public int DreamGuard.dream(int,int)",
        "public int DreamGuard.slept(int,int)",
        "public int DreamGuard.night(int)",
        "public int DreamGuard.stagger(int)",
        "public int DreamGuard.ring(int)",
        "public int DreamGuard.best(int,int)",
        "public int DreamGuard.seen(int,int,boolean)",
        "public int DreamGuard.who(int,int)",
        "public int DreamGuard.hourToAsk(int)",
        "public int DreamGuard.said(int,int,boolean)",
        "public int DreamGuard.liars()",
        "public int DreamGuard.game(int,int,int,int,int)",
        "public int DreamGuard.rests(int,int,int)",
        "public int DreamGuard.odds(int)",
        "public int DreamGuard.shares(int,int)",
        "public int DreamGuard.watcher(int)",
        "public int DreamGuard.awake(int)",
        "public int DreamGuard.most(int)",
        "public int DreamGuard.spare(int)",
        "public int DreamGuard.image()",
        "public int DreamGuard.back()",
        "public int DreamGuard.count(int)",
    };

    private FaceTest() { }

    public static void main(String[] args) {
        Check check = new Check();
        Set<String> found = new TreeSet<>();
        Set<String> publicNames = new TreeSet<>();
        Set<String> privateNames = new TreeSet<>();
        for (Constructor<?> made : DreamGuard.class.getDeclaredConstructors()) {
            found.add(made.toString());
        }
        for (Field field : DreamGuard.class.getDeclaredFields()) {
            if (!Modifier.isPrivate(field.getModifiers())) {
                found.add(field.toString());
            }
        }
        for (Method method : DreamGuard.class.getDeclaredMethods()) {
            if (Modifier.isPrivate(method.getModifiers())) {
                privateNames.add(method.getName());
            } else {
                publicNames.add(method.getName());
                found.add(method.toString());
            }
        }
        Set<String> due = new TreeSet<>(Set.of(FACE));
        for (String line : due) {
            check.holds("there is " + line, found.contains(line));
        }
        for (String line : found) {
            check.holds("the document has " + line, due.contains(line));
        }
        for (String name : privateNames) {
            check.fails("a private method is named like a public one: " + name, publicNames.contains(name));
        }
        check.holds("the class is final", Modifier.isFinal(DreamGuard.class.getModifiers()));
        innerClasses(check);
        check.finish();
    }

    private static void innerClasses(Check check) {
        Class<?>[] inner = DreamGuard.class.getDeclaredClasses();
        check.holds("some twelve classes", inner.length <= 12);
        for (Class<?> one : inner) {
            check.holds(one + " is static", Modifier.isStatic(one.getModifiers()));
            check.fails(one + " is public", Modifier.isPublic(one.getModifiers()));
            long fields = java.util.Arrays.stream(one.getDeclaredFields())
                .filter(f -> !Modifier.isStatic(f.getModifiers())).count();
            check.holds(one + " has some twenty fields", fields <= 20);
        }
    }
}
