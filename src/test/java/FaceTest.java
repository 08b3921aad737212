import java.io.IOException;
import java.lang.reflect.Constructor;
import java.lang.reflect.Field;
import java.lang.reflect.Method;
import java.lang.reflect.Modifier;
import java.nio.file.Files;
import java.nio.file.Path;
import java.util.ArrayList;
import java.util.List;
import java.util.Set;
import java.util.TreeSet;
import java.util.regex.Matcher;
import java.util.regex.Pattern;

/** The public face, and those rules of LANGUAGE.md that can be seen in the class or in its source. */
public final class FaceTest {
    private static final Path SOURCE = Path.of("src/main/java/SandPlates.java");
    private static final String[] FACE = {
        "type(int)", "clear()", "tells()", "shakes(int)", "sets(int,int)", "drives(int,int)",
        "draws(int,int,int)", "sands()", "undo()", "cell(int,int,int)", "setting(int)",
        "height(int,int,int)", "still(int)", "best(int)", "lies()", "sees(int,int)", "forget()",
        "which(int)", "look()", "keep(int)", "back(int)", "count(int)"};
    private static int wrong = 0;

    private static void due(String what, boolean so) {
        if (!so) {
            wrong++;
            System.out.println("not so: " + what);
        }
    }

    public static void main(String[] args) throws IOException {
        methods();
        constants();
        insideClasses();
        source();
        System.out.println(wrong == 0 ? "the face is as due" : wrong + " things are not as due");
        if (wrong != 0) {
            System.exit(1);
        }
    }

    private static void methods() {
        Set<String> seen = new TreeSet<>();
        for (Method method : SandPlates.class.getDeclaredMethods()) {
            if (Modifier.isPrivate(method.getModifiers())) {
                continue;
            }
            List<String> types = new ArrayList<>();
            for (Class<?> type : method.getParameterTypes()) {
                types.add(type.getName());
            }
            seen.add(method.getName() + "(" + String.join(",", types) + ")");
            due(method + " is public and answers an int",
                Modifier.isPublic(method.getModifiers()) && method.getReturnType() == int.class);
        }
        due("the methods are the document's: " + seen, seen.equals(new TreeSet<>(List.of(FACE))));
        Constructor<?>[] constructors = SandPlates.class.getDeclaredConstructors();
        due("one public constructor without arguments", constructors.length == 1
            && constructors[0].getParameterCount() == 0 && Modifier.isPublic(constructors[0].getModifiers()));
        due("the class is public and final", Modifier.isPublic(SandPlates.class.getModifiers())
            && Modifier.isFinal(SandPlates.class.getModifiers()));
    }

    private static void constants() {
        due("BAD", SandPlates.BAD == -1);
        due("STATE", SandPlates.STATE == -2);
        due("FULL", SandPlates.FULL == -3);
        due("NONE", SandPlates.NONE == -9);
        Set<String> seen = new TreeSet<>();
        for (Field field : SandPlates.class.getDeclaredFields()) {
            if (!Modifier.isPrivate(field.getModifiers())) {
                seen.add(field.getName());
            }
        }
        due("no other field can be seen: " + seen, seen.equals(Set.of("BAD", "STATE", "FULL", "NONE")));
    }

    private static void insideClasses() {
        Set<String> face = new TreeSet<>();
        for (String call : FACE) {
            face.add(call.substring(0, call.indexOf('(')));
        }
        Class<?>[] inside = SandPlates.class.getDeclaredClasses();
        due("at most twelve classes", inside.length < 12);
        for (Class<?> one : inside) {
            int modifiers = one.getModifiers();
            due(one + " is static and not public", Modifier.isStatic(modifiers) && !Modifier.isPublic(modifiers));
            for (Method method : one.getDeclaredMethods()) {
                due(method + " has a name of its own", !face.contains(method.getName()));
                due(method + " has at most seven parameters", method.getParameterCount() <= 7);
            }
            fields(one);
        }
        fields(SandPlates.class);
    }

    private static void fields(Class<?> one) {
        int many = 0;
        for (Field field : one.getDeclaredFields()) {
            boolean isStatic = Modifier.isStatic(field.getModifiers());
            due(field + " is no static state", !isStatic || Modifier.isFinal(field.getModifiers()));
            many += isStatic ? 0 : 1;
        }
        due(one + " has at most twenty fields", many <= 20);
    }

    private static void source() throws IOException {
        String text = Files.readString(SOURCE);
        due("the source's signs are plain", text.chars().allMatch(c -> c == '\n' || c >= ' ' && c < 127));
        String code = text.replaceAll("(?s)/\\*.*?\\*/", " ").replaceAll("//[^\n]*", " ").replaceAll("\"[^\"\n]*\"", "\"\"");
        String never = "throw|throws|try|catch|finally|synchronized|assert|Exact|System\\.(?!arraycopy)\\w+|Random|"
            + "Thread|volatile|native|package|var|->|::|hashCode|toString";
        Matcher matcher = Pattern.compile("(?<!\\w)(" + never + ")(?!\\w)|->|::").matcher(code);
        while (matcher.find()) {
            due("no '" + matcher.group() + "' in the source", false);
        }
        Matcher imports = Pattern.compile("import ([^;]+);").matcher(code);
        while (imports.find()) {
            due("import of " + imports.group(1), imports.group(1).equals("java.util.Arrays"));
        }
        rowsAreMadeOnce(code);
    }

    /** All rows and objects are made by fields and constructors, so no call adds to the room. */
    private static void rowsAreMadeOnce(String code) {
        for (String line : code.split("\n")) {
            if (line.matches(".*\\bnew\\b.*")) {
                due("made once: " + line.trim(), line.matches("\\s*private final .*") || line.matches("\\s*\\w+\\[\\w+\\] = new Plate\\(\\);"));
            }
        }
    }
}
