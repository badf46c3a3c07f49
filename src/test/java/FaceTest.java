import java.io.IOException;
import java.lang.reflect.Constructor;
import java.lang.reflect.Field;
import java.lang.reflect.Method;
import java.lang.reflect.Modifier;
import java.nio.file.Files;
import java.nio.file.Path;
import java.util.ArrayList;
import java.util.Arrays;
import java.util.HashSet;
import java.util.List;
import java.util.Set;
import java.util.TreeSet;
import java.util.regex.Matcher;
import java.util.regex.Pattern;

/** The public face, and the rules of LANGUAGE.md that a look at the class and its source can tell. */
public final class FaceTest {
    private static final Path SOURCE = Path.of("src/main/java/LineupDesk.java");
    private static final List<String> FACE = List.of(
            "feed int int,int,int,int,int", "text int int", "fault int ", "show int int", "hide int int",
            "change int int,int", "mock int int", "undo int ", "told int int", "trait int int,int",
            "value int int,int", "shown int int", "match int int,boolean", "mocks int int", "alike int int,int",
            "chance long int,int,boolean,boolean,int", "size long int", "fairest long int,int",
            "odds long int,boolean,boolean,int", "cut int int", "nudged int int", "print long ", "status int int");
    private static int failures = 0;

    public static void main(String[] args) throws IOException {
        theClass();
        theMembers();
        theClassesInside();
        theSource(withoutComments(Files.readString(SOURCE)));
        System.out.println(failures == 0 ? "face: all as due" : "face: " + failures + " not as due");
        if (failures != 0) {
            System.exit(1);
        }
    }

    private static void need(boolean fine, String what) {
        if (!fine) {
            failures++;
            System.out.println("not as due: " + what);
        }
    }

    private static void theClass() {
        int modifiers = LineupDesk.class.getModifiers();
        need(Modifier.isPublic(modifiers) && Modifier.isFinal(modifiers), "public final class");
        Constructor<?>[] constructors = LineupDesk.class.getDeclaredConstructors();
        need(constructors.length == 1 && constructors[0].getParameterCount() == 0
                && Modifier.isPublic(constructors[0].getModifiers()), "one public constructor without parameters");
    }

    private static void theMembers() {
        Set<String> found = new TreeSet<>();
        for (Method m : LineupDesk.class.getDeclaredMethods()) {
            if (!Modifier.isPrivate(m.getModifiers())) {
                need(Modifier.isPublic(m.getModifiers()) && !Modifier.isStatic(m.getModifiers()), m.toString());
                List<String> types = new ArrayList<>();
                for (Class<?> type : m.getParameterTypes()) {
                    types.add(type.getName());
                }
                found.add(m.getName() + " " + m.getReturnType() + " " + String.join(",", types));
            }
        }
        need(found.equals(new TreeSet<>(FACE)), "methods of the face: " + found);
        for (Field f : LineupDesk.class.getDeclaredFields()) {
            boolean constant = f.getName().equals("NONE");
            need(constant ? Modifier.isPublic(f.getModifiers()) : Modifier.isPrivate(f.getModifiers()), f.toString());
        }
    }

    private static void theClassesInside() {
        Set<String> face = new HashSet<>();
        FACE.forEach(line -> face.add(line.substring(0, line.indexOf(' '))));
        List<Class<?>> all = new ArrayList<>(Arrays.asList(LineupDesk.class.getDeclaredClasses()));
        need(all.size() <= 12, "at most twelve classes");
        for (Class<?> inside : all) {
            need(Modifier.isStatic(inside.getModifiers()), inside + " is static");
            for (Method m : inside.getDeclaredMethods()) {
                need(!face.contains(m.getName()), m + " bears a name of the face");
            }
        }
        all.add(LineupDesk.class);
        for (Class<?> one : all) {
            int fields = 0;
            for (Field f : one.getDeclaredFields()) {
                boolean isStatic = Modifier.isStatic(f.getModifiers());
                need(!isStatic || Modifier.isFinal(f.getModifiers()), f + " is static and not final");
                fields += isStatic ? 0 : 1;
            }
            need(fields <= 20, one + " has at most twenty fields");
            for (Method m : one.getDeclaredMethods()) {
                need(m.getParameterCount() <= 7, m + " has at most seven parameters");
            }
        }
    }

    private static String withoutComments(String source) {
        return source.replaceAll("(?s)/\\*.*?\\*/", "").replaceAll("//[^\n]*", "");
    }

    private static void theSource(String source) {
        String[] never = {"\\btry\\b", "\\bcatch\\b", "\\bfinally\\b", "->", "::", "\\bsynchronized\\b", "\\bassert\\b",
            "Exact\\b", "\\bpackage\\b", "\\bObject\\b", "\\bSystem\\.(?!arraycopy)", "\\bdouble\\b", "\\bfloat\\b",
            "\\bordinal\\b", "\\bvar\\b"};
        for (String word : never) {
            Matcher m = Pattern.compile(word).matcher(source);
            need(!m.find(), "the source has " + word);
        }
        Matcher imports = Pattern.compile("import ([^;]*);").matcher(source);
        while (imports.find()) {
            need(imports.group(1).equals("java.util.NoSuchElementException"), "import of " + imports.group(1));
        }
        Matcher thrown = Pattern.compile("\\bthrow (?!new (NoSuchElement|IllegalArgument|IllegalState)Exception\\(\"[^\"]*\"\\);)")
                .matcher(source);
        need(!thrown.find(), "a throw is of another form");
        methodLengths(source);
        objectsMade(source);
    }

    /** All rows are made with the object: no call makes one, but for the exception that it throws. */
    private static void objectsMade(String source) {
        for (String line : source.split("\n")) {
            boolean ofField = line.matches(" {4}( {4})?(private )?(final )?[\\w\\[\\]]+ \\w+ = new .*;");
            boolean ofConstructor = line.trim().equals("past[k] = new Lineup();");
            need(!line.contains("new ") || line.contains("throw new ") || ofField || ofConstructor, "made by a call: " + line);
        }
    }

    private static void methodLengths(String source) {
        int start = -1;
        String[] lines = source.split("\n");
        for (int k = 0; k < lines.length; k++) {
            if (lines[k].matches(" {4}( {4})?(?!private static final class)\\S.*\\) ?(throws .*)?\\{")) {
                start = k;
            } else if (start >= 0 && lines[k].matches(" {4}( {4})?\\}")) {
                need(k - start < 60, "a method of more than sixty lines: " + lines[start]);
                start = -1;
            }
        }
    }
}
