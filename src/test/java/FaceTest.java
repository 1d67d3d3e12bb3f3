import java.lang.reflect.Constructor;
import java.lang.reflect.Field;
import java.lang.reflect.Method;
import java.lang.reflect.Modifier;
import java.nio.file.Files;
import java.nio.file.Path;
import java.util.Arrays;
import java.util.Set;
import java.util.TreeSet;
import java.util.stream.Collectors;

/** The face is the document's, and nothing in the file is outside LANGUAGE.md as far as a test can see it. */
final class FaceTest {
    public static void main(String[] args) throws Exception {
        face();
        fields();
        nested(ArchEnds.class);
        source();
        Check.finish();
    }

    private static void face() throws Exception {
        Set<String> want = new TreeSet<>();
        Set<String> names = new TreeSet<>();
        boolean inFace = false;
        for (String line : Files.readAllLines(Path.of("../shared/DOC.md"))) {
            String told = line.trim();
            if (told.startsWith("public final class ArchEnds")) {
                inFace = true;
            } else if (inFace && told.equals("}")) {
                inFace = false;
            } else if (inFace && told.contains("(") && !told.startsWith("public ArchEnds(")) {
                String head = told.substring("public ".length(), told.indexOf(')') + 1);
                String[] typeAndName = head.substring(0, head.indexOf('(')).split(" ");
                String parts = head.substring(head.indexOf('(') + 1, head.length() - 1);
                String types = parts.isEmpty() ? "" : Arrays.stream(parts.split(", "))
                        .map(p -> p.split(" ")[0]).collect(Collectors.joining(","));
                want.add(typeAndName[0] + " " + typeAndName[1] + "(" + types + ")");
                names.add(typeAndName[1]);
            }
        }
        Set<String> got = new TreeSet<>();
        for (Method m : ArchEnds.class.getDeclaredMethods()) {
            if (Modifier.isPublic(m.getModifiers()) && !Modifier.isStatic(m.getModifiers())) {
                got.add(m.getReturnType() + " " + m.getName() + "(" + Arrays.stream(m.getParameterTypes())
                        .map(Class::getName).collect(Collectors.joining(",")) + ")");
            } else {
                Check.due("private: " + m, Modifier.isPrivate(m.getModifiers()), true);
                Check.due("bears a public name: " + m, names.contains(m.getName()), false);
            }
        }
        Check.due("promises", want.size(), 53);
        Check.due("the face is " + got + ", due is " + want, got.equals(want), true);
        Constructor<?>[] made = ArchEnds.class.getDeclaredConstructors();
        Check.due("constructors", made.length, 1);
        Check.due("constructor's parameters", made[0].getParameterCount(), 0);
        Check.due("public constructor", Modifier.isPublic(made[0].getModifiers()), true);
        Check.due("public final class", ArchEnds.class.getModifiers(), Modifier.PUBLIC | Modifier.FINAL);
    }

    private static void fields() {
        for (Field f : ArchEnds.class.getDeclaredFields()) {
            if (f.getName().equals("NONE")) {
                Check.due("NONE is a public constant", f.getModifiers(),
                        Modifier.PUBLIC | Modifier.STATIC | Modifier.FINAL);
            } else {
                Check.due("private: " + f, Modifier.isPrivate(f.getModifiers()), true);
            }
        }
        Check.due("NONE", ArchEnds.NONE, -1);
    }

    private static void nested(Class<?> outer) {
        int fields = 0;
        for (Field f : outer.getDeclaredFields()) {
            if (Modifier.isStatic(f.getModifiers())) {
                Check.due("static and final: " + f, Modifier.isFinal(f.getModifiers()), true);
            } else {
                fields++;
            }
        }
        Check.due("at most 20 fields in " + outer, fields <= 20, true);
        Set<String> names = new TreeSet<>();
        for (Method m : ArchEnds.class.getMethods()) {
            names.add(m.getName());
        }
        for (Method m : outer.getDeclaredMethods()) {
            Check.due("at most 7 parameters: " + m, m.getParameterCount() <= 7, true);
            if (outer != ArchEnds.class && !outer.isEnum()) {
                Check.due("bears a public name: " + m, names.contains(m.getName()), false);
            }
        }
        Class<?>[] inside = outer.getDeclaredClasses();
        Check.due("at most 12 classes", inside.length < 12, true);
        for (Class<?> c : inside) {
            Check.due("static: " + c, Modifier.isStatic(c.getModifiers()), true);
            nested(c);
        }
    }

    private static void source() throws Exception {
        String text = Files.readString(Path.of("src/main/java/ArchEnds.java"));
        String[] none = {"->", "::", "try {", "catch (", "finally", "synchronized", "assert", "System.out", "Exact(",
            "package ", "Object", "hashCode", "toString", "while (true)", "for (;;)", "var "};
        for (String sign : none) {
            Check.due("the file holds " + sign, text.contains(sign), false);
        }
        int start = 0;
        int number = 0;
        for (String line : text.split("\n")) {
            number++;
            if (line.startsWith("import ")) {
                Check.due(line, line.equals("import java.util.NoSuchElementException;"), true);
            }
            if (line.matches("    (    )?[a-zA-Z].*\\) .*\\{") || line.matches("    (    )?[a-zA-Z].*\\)$")) {
                start = number;
            }
            if (line.matches("    (    )?\\}") && start > 0) {
                Check.due("line " + start + ": a method of " + (number - start) + " lines", number - start <= 60, true);
                start = 0;
            }
            Check.due("line " + number + " is of printable ASCII", line.matches("[ -~]*"), true);
        }
    }
}
