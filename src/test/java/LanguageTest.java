import java.lang.reflect.Executable;
import java.lang.reflect.Field;
import java.lang.reflect.Method;
import java.lang.reflect.Modifier;
import java.nio.file.Files;
import java.nio.file.Path;
import java.util.ArrayList;
import java.util.Arrays;
import java.util.HashSet;
import java.util.List;
import java.util.Set;
import java.util.regex.Matcher;
import java.util.regex.Pattern;

/** What of the rules of ../shared/LANGUAGE.md can be seen in the program's text and in its classes. */
public final class LanguageTest {
    private static final Set<String> IMPORTS = Set.of(
            "java.util.ArrayList", "java.util.Arrays", "java.util.Iterator", "java.util.List");
    private static final String[] NOT_ALLOWED = {
        "\\bthrow\\b", "\\bthrows\\b", "\\btry\\b", "\\bcatch\\b", "\\bsynchronized\\b", "\\bassert\\b",
        "\\bstatic\\s*\\{", "->", "::", "@", "\\bprotected\\b", "\\bpackage\\b", "\\w+Exact\\b",
        "\\bSystem\\.(?!arraycopy)", "\\bThread\\b", "\\bRandom\\b", "\\bhashCode\\b",
        "\\bwhile\\s*\\(true\\)", "\\bfor\\s*\\([^;)]*;\\s*;"};
    private static final Set<Class<?>> CONSTANTS = Set.of(
            int.class, long.class, boolean.class, char.class, String.class,
            int[].class, long[].class, char[].class, byte[].class);
    private static final int MOST_CLASSES = 12, MOST_FIELDS = 20, MOST_PARAMETERS = 7, MOST_LINES = 60;
    private static final Class<?>[] CLASSES = LeaseHouse.class.getNestMembers();
    private static final Check check = new Check();

    public static void main(String[] args) throws Exception {
        String text = withoutComments(Files.readString(Path.of("src", "main", "java", "LeaseHouse.java")));
        onlyTheLibraryThatIsListedIsUsed(text);
        nothingThatIsRuledOutIsWritten(text);
        methodsAreShort(text);
        classesInsideAreStaticAndNotPublic();
        noPrivateMethodHasAPublicName();
        staticFieldsAreConstants();
        classesAreSmall();
        check.end();
    }

    private static void onlyTheLibraryThatIsListedIsUsed(String text) {
        Matcher imported = Pattern.compile("\\bimport\\s+(?:static\\s+)?([\\w.*]+)\\s*;").matcher(text);
        while (imported.find()) {
            check.due("the import of " + imported.group(1), IMPORTS.contains(imported.group(1)), true);
        }
        String rest = text.replaceAll("\\bimport\\s+[^;]+;", "");
        check.due("names of packages behind the imports", timesIn(rest, "\\bjavax?\\."), 0);
    }

    private static void nothingThatIsRuledOutIsWritten(String text) {
        for (String part : NOT_ALLOWED) {
            check.due("times of " + part, timesIn(text, part), 0);
        }
    }

    /** A method begins at a line that ends in "{" and holds "(", one or two levels deep. */
    private static void methodsAreShort(String text) {
        String[] lines = text.split("\n", -1);
        int methods = 0;
        for (int at = 0; at < lines.length; at++) {
            Matcher begin = Pattern.compile("( {4}| {8})\\S.*\\).*\\{").matcher(lines[at]);
            if (begin.matches() && !lines[at].matches(" *(if|for|while|switch|do|\\}|private record).*")) {
                int end = Arrays.asList(lines).subList(at, lines.length).indexOf(begin.group(1) + "}");
                check.due("lines of" + lines[at], end > 0 && end < MOST_LINES, true);
                methods++;
            }
        }
        check.due("methods were found", methods > 22, true);
    }

    private static void classesInsideAreStaticAndNotPublic() {
        for (Class<?> inside : CLASSES) {
            if (inside != LeaseHouse.class) {
                int seen = inside.getModifiers();
                check.due(inside + " is a member", inside.isMemberClass(), true);
                check.due(inside + " is static", Modifier.isStatic(seen), true);
                check.due(inside + " is open", Modifier.isPublic(seen) || Modifier.isProtected(seen), false);
            }
        }
    }

    private static void noPrivateMethodHasAPublicName() {
        Set<String> face = new HashSet<>();
        for (Method method : LeaseHouse.class.getDeclaredMethods()) {
            if (Modifier.isPublic(method.getModifiers())) {
                face.add(method.getName());
            }
        }
        for (Class<?> each : CLASSES) {
            for (Method method : each.getDeclaredMethods()) {
                if (Modifier.isPrivate(method.getModifiers())) {
                    check.due("the face has " + method, face.contains(method.getName()), false);
                }
            }
        }
    }

    private static void staticFieldsAreConstants() {
        for (Class<?> each : CLASSES) {
            for (Field field : each.getDeclaredFields()) {
                if (Modifier.isStatic(field.getModifiers()) && !field.isEnumConstant()) {
                    check.due(field + " is final", Modifier.isFinal(field.getModifiers()), true);
                    check.due(field + " is of a constant's type", CONSTANTS.contains(field.getType()), true);
                }
            }
        }
    }

    private static void classesAreSmall() {
        check.due("classes are few", CLASSES.length <= MOST_CLASSES, true);
        for (Class<?> each : CLASSES) {
            long fields = Arrays.stream(each.getDeclaredFields())
                    .filter(field -> !Modifier.isStatic(field.getModifiers())).count();
            check.due("fields of " + each + " are few", fields <= MOST_FIELDS, true);
            List<Executable> members = new ArrayList<>(Arrays.asList(each.getDeclaredMethods()));
            members.addAll(Arrays.asList(each.getDeclaredConstructors()));
            for (Executable member : members) {
                check.due("parameters of " + member + " are few", member.getParameterCount() <= MOST_PARAMETERS, true);
            }
        }
    }

    private static String withoutComments(String text) {
        return text.replaceAll("(?s)/\\*.*?\\*/", "").replaceAll("//[^\n]*", "");
    }

    private static int timesIn(String text, String part) {
        int times = 0;
        Matcher found = Pattern.compile(part).matcher(text);
        while (found.find()) {
            times++;
        }
        return times;
    }
}
