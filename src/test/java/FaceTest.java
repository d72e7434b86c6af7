import java.io.IOException;
import java.lang.reflect.Constructor;
import java.lang.reflect.Field;
import java.lang.reflect.Method;
import java.lang.reflect.Modifier;
import java.nio.file.Files;
import java.nio.file.Path;
import java.util.Map;
import java.util.Set;
import java.util.TreeMap;
import java.util.TreeSet;
import java.util.regex.Matcher;
import java.util.regex.Pattern;

/** The public face of the document, and those rules of ../shared/LANGUAGE.md that a look at the class or its text can tell. */
public final class FaceTest {
    private static final String SOURCE = "src/main/java/GenerationNames.java";
    private static final Set<String> FACE = Set.of("int keep(int,int)", "int write(int,int,int)", "int read(int,int)",
        "int delete(int,int)", "int begin()", "int end(int)", "int again()", "int ofGroup(int,int)", "int generation(int,int,int)",
        "int named(int,int)", "int count(int)", "int groups(int)", "int rolls(int)", "int ifFailed(int)", "int leastKeep(int)",
        "int put(long)", "int wipe()", "int fault()", "int carryOut()", "int undo()", "int save(int)", "int restore(int)");
    private static final Map<String, Integer> CONSTANTS = new TreeMap<>(Map.of("NO_SUCH", -1, "BAD_VALUE", -2, "BAD_TEXT", -3,
        "TOO_MANY", -4, "NOT_POSSIBLE", -5, "NONE", -6));

    private FaceTest() {
    }

    public static void main(String[] args) throws IOException, IllegalAccessException {
        Due due = new Due("the face");
        Class<?> face = GenerationNames.class;
        due.holds("public and final", Modifier.isPublic(face.getModifiers()) && Modifier.isFinal(face.getModifiers()));
        constructors(due, face);
        methods(due, face);
        fields(due, face);
        for (Class<?> inside : face.getDeclaredClasses()) {
            int kind = inside.getModifiers();
            due.holds(inside + " is static and not public", Modifier.isStatic(kind) && !Modifier.isPublic(kind) && !Modifier.isProtected(kind));
            staticFields(due, inside);
        }
        source(due);
        System.out.println("the face: " + due.asked() + " looks, " + due.wrong() + " wrong");
        if (due.wrong() != 0) {
            System.exit(1);
        }
    }

    private static void constructors(Due due, Class<?> face) {
        due.is("constructors", face.getDeclaredConstructors().length, 1);
        for (Constructor<?> each : face.getDeclaredConstructors()) {
            due.holds("public, without parameters", Modifier.isPublic(each.getModifiers()) && each.getParameterCount() == 0);
        }
    }

    private static void methods(Due due, Class<?> face) {
        Set<String> found = new TreeSet<>();
        Set<String> names = new TreeSet<>();
        for (Method each : face.getDeclaredMethods()) {
            if (!Modifier.isPrivate(each.getModifiers())) {
                due.holds(each + " is public and an object's", Modifier.isPublic(each.getModifiers()) && !Modifier.isStatic(each.getModifiers()));
                found.add(each.toString().replaceAll("public (\\w+) GenerationNames\\.", "$1 "));
                names.add(each.getName());
            }
        }
        due.holds("the methods are those of the document: " + found, found.equals(FACE));
        for (Method each : face.getDeclaredMethods()) {
            due.holds(each + " bears no public name", !Modifier.isPrivate(each.getModifiers()) || !names.contains(each.getName()));
        }
    }

    private static void fields(Due due, Class<?> face) throws IllegalAccessException {
        Map<String, Integer> found = new TreeMap<>();
        for (Field each : face.getDeclaredFields()) {
            int kind = each.getModifiers();
            if (!Modifier.isPrivate(kind)) {
                due.holds(each + " is a constant", Modifier.isPublic(kind) && Modifier.isStatic(kind) && Modifier.isFinal(kind));
                found.put(each.getName(), each.getInt(null));
            }
        }
        due.holds("the constants are those of the document: " + found, found.equals(CONSTANTS));
        staticFields(due, face);
    }

    private static void staticFields(Due due, Class<?> one) {
        for (Field each : one.getDeclaredFields()) {
            due.holds(each + " is final if it is static", !Modifier.isStatic(each.getModifiers()) || Modifier.isFinal(each.getModifiers()));
        }
        due.holds(one + " has some twenty fields at most", one.getDeclaredFields().length <= 40);
    }

    private static void source(Due due) throws IOException {
        String bare = Files.readString(Path.of(SOURCE)).replaceAll("(?s)/\\*.*?\\*/|//[^\n]*", "").replaceAll("'.'", "' '");
        String[] ruledOut = {"\\bthrow\\b", "\\btry\\b", "\\bcatch\\b", "\\bsynchronized\\b", "\\bassert\\b", "\\bpackage\\b", "->", "::",
            "\\bstatic \\{", "\\bequals\\(", "\\bhashCode\\b", "\\btoString\\b", "Exact\\(", "\\bSystem\\.(?!arraycopy)", "\\bimport\\b"};
        for (String each : ruledOut) {
            due.holds("no " + each, !Pattern.compile(each).matcher(bare).find());
        }
        for (int i = 0; i < bare.length(); i++) {
            due.holds("signs are plain", bare.charAt(i) < 127);
        }
        Matcher method = Pattern.compile("(?m)^( +)[a-zA-Z][\\w\\[\\] ]*\\(([^()]*)\\) \\{\n(?s:(.*?))\n\\1\\}").matcher(bare);
        int methods = 0;
        while (method.find()) {
            methods++;
            due.holds("a short method: " + method.group().strip().split("\n")[0], method.group(3).split("\n").length <= 60);
            due.holds("few parameters: " + method.group(2), method.group(2).split(",").length <= 7);
        }
        due.holds("methods were found", methods > 22);
    }
}
