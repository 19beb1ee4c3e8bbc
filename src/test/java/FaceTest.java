import java.io.IOException;
import java.lang.reflect.Constructor;
import java.lang.reflect.Field;
import java.lang.reflect.Method;
import java.lang.reflect.Modifier;
import java.nio.charset.StandardCharsets;
import java.nio.file.Files;
import java.nio.file.Path;
import java.util.Set;
import java.util.TreeSet;
import java.util.regex.Pattern;

/** The public face as the document has it, and the rules of LANGUAGE.md that can be looked at from outside. */
public final class FaceTest {
    private static final Set<String> FACE = Set.of("row int int int", "set int int int", "copy int int int int int",
        "drop int", "feed long int", "port", "fault", "drift int int", "word int int int", "words int", "knows int",
        "means int int int int int", "shortest int int int int", "sayable int int", "bargain int int int",
        "understands int int int", "week int", "letIn int", "dated int int int int", "image int", "restore int",
        "kind int int", "as int int int", "ask int int int", "trace int", "count int", "status");
    private static final Set<String> CONSTANTS = Set.of("NONE", "BAD", "STATE", "FULL");

    public static void main(String[] args) throws IOException {
        constants();
        methods();
        classesInside();
        source();
        Check.end();
    }

    private static void constants() {
        Check.due("NONE", DayTongues.NONE, -1000000);
        Check.due("BAD", DayTongues.BAD, -1000001);
        Check.due("STATE", DayTongues.STATE, -1000002);
        Check.due("FULL", DayTongues.FULL, -1000003);
        for (Field field : DayTongues.class.getDeclaredFields()) {
            boolean open = CONSTANTS.contains(field.getName());
            holds("field " + field, open ? Modifier.isPublic(field.getModifiers()) : Modifier.isPrivate(field.getModifiers()));
        }
    }

    private static void methods() {
        Set<String> names = new TreeSet<>();
        Set<String> found = new TreeSet<>();
        for (String told : FACE) {
            names.add(told.split(" ")[0]);
        }
        for (Method method : DayTongues.class.getDeclaredMethods()) {
            StringBuilder told = new StringBuilder(method.getName());
            for (Class<?> type : method.getParameterTypes()) {
                told.append(' ').append(type.getName());
            }
            if (Modifier.isPrivate(method.getModifiers())) {
                holds("private " + told, !names.contains(method.getName()));
            } else {
                holds("public int " + told, Modifier.isPublic(method.getModifiers())
                    && !Modifier.isStatic(method.getModifiers()) && method.getReturnType() == int.class);
                found.add(told.toString());
            }
        }
        holds("the face has all that the document tells, and no more: " + found, found.equals(new TreeSet<>(FACE)));
        Constructor<?>[] constructors = DayTongues.class.getDeclaredConstructors();
        Check.due("constructors", constructors.length, 1);
        Check.due("of", constructors[0].getParameterCount(), 0);
        holds("public", Modifier.isPublic(constructors[0].getModifiers()));
        holds("final", Modifier.isFinal(DayTongues.class.getModifiers()));
    }

    private static void classesInside() {
        Class<?>[] inside = DayTongues.class.getDeclaredClasses();
        holds("twelve classes at most", inside.length + 1 <= 12);
        oneClass(DayTongues.class);
        for (Class<?> one : inside) {
            holds(one + " is static, not public", Modifier.isStatic(one.getModifiers())
                && !Modifier.isPublic(one.getModifiers()) && !Modifier.isProtected(one.getModifiers()));
            oneClass(one);
        }
    }

    private static void oneClass(Class<?> one) {
        int own = 0;
        for (Field field : one.getDeclaredFields()) {
            boolean still = Modifier.isStatic(field.getModifiers());
            holds(field + " is final where it is static", !still || Modifier.isFinal(field.getModifiers()));
            own += still ? 0 : 1;
        }
        holds(one + " has some twenty fields at most", own <= 20);
        for (Method method : one.getDeclaredMethods()) {
            holds(method + " takes seven at most", method.getParameterCount() <= 7);
        }
    }

    private static void source() throws IOException {
        String text = Files.readString(Path.of("src/main/java/DayTongues.java"), StandardCharsets.ISO_8859_1);
        String code = text.replaceAll("(?s)/\\*.*?\\*/", "").replaceAll("//[^\n]*", "");
        String[] never = {"\\bthrow", "\\btry\\b", "\\bcatch\\b", "\\bsynchronized\\b", "\\bassert\\b", "\\bimport\\b",
            "\\bpackage\\b", "->", "::", "\\bObject\\b", "\\bprotected\\b", "\\bnull\\b\\s*\\.", "\\bSystem\\.(?!arraycopy)",
            "Exact\\b", "\\bequals\\b", "hashCode", "toString", "@"};
        for (String word : never) {
            holds("no " + word, !Pattern.compile(word).matcher(code).find());
        }
        int[] begins = {0, 0};
        String[] lines = text.split("\n");
        for (int i = 0; i < lines.length; i++) {
            holds("a line of plain signs: " + (i + 1), lines[i].matches("[ -~]*"));
            int depth = lines[i].startsWith("        ") ? 1 : 0;
            if (lines[i].matches(" {4}( {4})?[^ ].*\\{")) {
                begins[depth] = lines[i].contains(" class ") ? lines.length : i;
            }
            if (lines[i].matches(" {4}( {4})?\\}")) {
                holds("a method short enough, up to line " + (i + 1), i - begins[depth] < 60);
            }
        }
    }

    private static void holds(String what, boolean is) {
        Check.due(what, is ? 1 : 0, 1);
    }
}
