import java.lang.reflect.Constructor;
import java.lang.reflect.Field;
import java.lang.reflect.Method;
import java.lang.reflect.Modifier;
import java.util.Arrays;
import java.util.TreeSet;

/** The public face: just what the document writes, and nothing else that can be seen from outside. */
public final class FaceTest {
    private static final String[] FACE = {
        "public static final int REFUSED", "public static final int NONE", "public static final int FULL",
        "public LeaseHouse(int)",
        "public int sign(int)", "public int erase()", "public int want(int, int)", "public int free(int)",
        "public int renew(int, int)", "public int leave(int)", "public int tick(int)", "public int holder()",
        "public int left()", "public int waiting(int)", "public int first()", "public int job(int, int)",
        "public long work()", "public int cancel()", "public int ask()", "public boolean known()",
        "public int watch(int)", "public int note(int)", "public int waits(int, int)",
        "public int waited(int)", "public int letter(int)", "public int count(int)"};

    public static void main(String[] args) {
        Check check = new Check();
        check.due("REFUSED", LeaseHouse.REFUSED, -1);
        check.due("NONE", LeaseHouse.NONE, -2);
        check.due("FULL", LeaseHouse.FULL, -3);
        check.due("public and final", LeaseHouse.class.getModifiers(), Modifier.PUBLIC | Modifier.FINAL);
        TreeSet<String> due = new TreeSet<>(Arrays.asList(FACE));
        TreeSet<String> seen = seenFromOutside();
        for (String member : due) {
            check.due("there is " + member, seen.contains(member), true);
        }
        for (String member : seen) {
            check.due("the document has " + member, due.contains(member), true);
        }
        check.end();
    }

    private static TreeSet<String> seenFromOutside() {
        TreeSet<String> seen = new TreeSet<>();
        for (Field field : LeaseHouse.class.getDeclaredFields()) {
            if (!Modifier.isPrivate(field.getModifiers())) {
                seen.add(Modifier.toString(field.getModifiers()) + " " + field.getType() + " " + field.getName());
            }
        }
        for (Constructor<?> made : LeaseHouse.class.getDeclaredConstructors()) {
            seen.add(Modifier.toString(made.getModifiers()) + " LeaseHouse" + typesOf(made.getParameterTypes()));
        }
        for (Method method : LeaseHouse.class.getDeclaredMethods()) {
            if (!Modifier.isPrivate(method.getModifiers())) {
                seen.add(Modifier.toString(method.getModifiers()) + " " + method.getReturnType() + " "
                        + method.getName() + typesOf(method.getParameterTypes()));
            }
        }
        return seen;
    }

    private static String typesOf(Class<?>[] types) {
        return Arrays.toString(types).replace('[', '(').replace(']', ')');
    }
}
