import java.lang.reflect.Constructor;
import java.lang.reflect.Executable;
import java.lang.reflect.Field;
import java.lang.reflect.Method;
import java.lang.reflect.Modifier;
import java.lang.reflect.Parameter;
import java.util.Arrays;
import java.util.StringJoiner;
import java.util.TreeSet;

/**
 * The public face: just what the document writes, each member with its name, its parameters, their
 * names and its type, and nothing else that can be seen from outside. The names of parameters are
 * there only if the program was compiled with -parameters.
 */
public final class FaceTest {
    private static final String[] FACE = {
        "public static final int REFUSED = -1",
        "public static final int NONE = -2",
        "public static final int FULL = -3",
        "public LeaseHouse(int sort)",
        "public int sign(int letter)",
        "public int erase()",
        "public int want(int client, int ticks)",
        "public int free(int client)",
        "public int renew(int client, int ticks)",
        "public int leave(int client)",
        "public int tick(int n)",
        "public int holder()",
        "public int left()",
        "public int waiting(int k)",
        "public int first()",
        "public int job(int rank, int due)",
        "public long work()",
        "public int cancel()",
        "public int ask()",
        "public boolean known()",
        "public int watch(int client)",
        "public int note(int client)",
        "public int waits(int low, int high)",
        "public int waited(int ticks)",
        "public int letter(int k)",
        "public int count(int what)"};
    private static final Check check = new Check();

    public static void main(String[] args) throws IllegalAccessException {
        theClassIsAsWritten();
        theMembersAreAsWritten();
        check.end();
    }

    private static void theClassIsAsWritten() {
        check.due("public and final", LeaseHouse.class.getModifiers(), Modifier.PUBLIC | Modifier.FINAL);
        check.due("its package", LeaseHouse.class.getPackageName(), "");
        check.due("what it extends", LeaseHouse.class.getSuperclass().getName(), "java.lang.Object");
        check.due("interfaces", LeaseHouse.class.getInterfaces().length, 0);
    }

    private static void theMembersAreAsWritten() throws IllegalAccessException {
        TreeSet<String> due = new TreeSet<>(Arrays.asList(FACE));
        TreeSet<String> seen = seenFromOutside();
        for (String member : due) {
            check.due("there is " + member, seen.contains(member), true);
        }
        for (String member : seen) {
            check.due("the document has " + member, due.contains(member), true);
        }
    }

    private static TreeSet<String> seenFromOutside() throws IllegalAccessException {
        TreeSet<String> seen = new TreeSet<>();
        for (Field field : LeaseHouse.class.getDeclaredFields()) {
            if (!Modifier.isPrivate(field.getModifiers())) {
                seen.add(Modifier.toString(field.getModifiers()) + " " + field.getType() + " " + field.getName()
                        + (Modifier.isStatic(field.getModifiers()) ? " = " + field.get(null) : ""));
            }
        }
        for (Constructor<?> made : LeaseHouse.class.getDeclaredConstructors()) {
            seen.add(Modifier.toString(made.getModifiers()) + " LeaseHouse" + parametersOf(made));
        }
        for (Method method : LeaseHouse.class.getDeclaredMethods()) {
            if (!Modifier.isPrivate(method.getModifiers())) {
                seen.add(Modifier.toString(method.getModifiers()) + " " + method.getReturnType() + " "
                        + method.getName() + parametersOf(method));
            }
        }
        return seen;
    }

    private static String parametersOf(Executable member) {
        StringJoiner parameters = new StringJoiner(", ", "(", ")");
        for (Parameter parameter : member.getParameters()) {
            parameters.add(parameter.getType() + " " + parameter.getName());
        }
        return parameters.toString();
    }
}
