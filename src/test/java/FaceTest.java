import java.io.IOException;
import java.lang.reflect.Field;
import java.lang.reflect.Method;
import java.lang.reflect.Modifier;
import java.nio.file.Files;
import java.nio.file.Path;
import java.util.Arrays;
import java.util.Set;
import java.util.TreeSet;
import java.util.regex.Matcher;
import java.util.regex.Pattern;
import java.util.stream.Collectors;

/** Rules 1, 2, 5, 6 and 11 of the language, as far as the class and its source show them, and the document's face. */
final class FaceTest {
    private static final Path DOC = Path.of("../shared/DOC.md");
    private static final Path SOURCE = Path.of("src/main/java/LostRound.java");

    public static void main(String[] args) throws IOException {
        faceIsTheDocuments();
        nothingElseIsSeen();
        classesInside();
        staticFieldsAreFinal();
        sourceKeepsToItsWords();
        Due.close("FaceTest");
    }

    private static String types(Class<?>[] types) {
        return Arrays.stream(types).map(Class::getSimpleName).collect(Collectors.joining(", "));
    }

    private static Set<String> publicFace() {
        Set<String> face = new TreeSet<>();
        for (Method m : LostRound.class.getDeclaredMethods()) {
            if (Modifier.isPublic(m.getModifiers())) {
                String fails = types(m.getExceptionTypes());
                face.add(m.getReturnType() + " " + m.getName() + "(" + types(m.getParameterTypes()) + ")"
                    + (fails.isEmpty() ? "" : " throws " + fails));
            }
        }
        return face;
    }

    private static void faceIsTheDocuments() throws IOException {
        Set<String> due = new TreeSet<>();
        Matcher m = Pattern.compile("    public (int|boolean|void) (\\w+)\\((.*?)\\)(.*?);").matcher(Files.readString(DOC));
        while (m.find()) {
            due.add(m.group(1) + " " + m.group(2) + "(" + m.group(3).replaceAll(" \\w+(?=,|$)", "") + ")" + m.group(4));
        }
        Due.is("methods in the document", due.size(), 60);
        Set<String> got = publicFace();
        for (String method : due) {
            Due.is("there is " + method, got.contains(method), true);
        }
        for (String method : got) {
            Due.is("the document has " + method, due.contains(method), true);
        }
        Due.is("the class is public and final", LostRound.class.getModifiers(), Modifier.PUBLIC | Modifier.FINAL);
        Due.is("constructors", LostRound.class.getConstructors().length, 1);
        Due.is("public fields", LostRound.class.getFields().length, 1);
    }

    private static void nothingElseIsSeen() {
        Set<String> open = new TreeSet<>();
        for (Method m : LostRound.class.getDeclaredMethods()) {
            if (Modifier.isPublic(m.getModifiers())) {
                open.add(m.getName());
            }
        }
        for (Method m : LostRound.class.getDeclaredMethods()) {
            boolean hidden = Modifier.isPrivate(m.getModifiers()) && !open.contains(m.getName());
            Due.is("public, or private with a name of its own: " + m, Modifier.isPublic(m.getModifiers()) || hidden, true);
        }
        for (Field f : LostRound.class.getDeclaredFields()) {
            Due.is("private but for NONE: " + f, Modifier.isPrivate(f.getModifiers()) || f.getName().equals("NONE"), true);
        }
        for (Class<?> inside : LostRound.class.getDeclaredClasses()) {
            for (Method m : inside.getDeclaredMethods()) {
                Due.is("no name of the face: " + m, open.contains(m.getName()), false);
                Due.is("at most seven parameters: " + m, m.getParameterCount() <= 7, true);
            }
        }
    }

    private static void classesInside() {
        Class<?>[] inside = LostRound.class.getDeclaredClasses();
        Due.is("at most twelve classes", inside.length + 1 <= 12, true);
        for (Class<?> c : inside) {
            Due.is("static: " + c, Modifier.isStatic(c.getModifiers()), true);
            Due.is("not public or protected: " + c, Modifier.isPublic(c.getModifiers()) || Modifier.isProtected(c.getModifiers()), false);
            long fields = Arrays.stream(c.getDeclaredFields()).filter(f -> !Modifier.isStatic(f.getModifiers())).count();
            Due.is("at most twenty fields: " + c, fields <= 20, true);
        }
    }

    private static void staticFieldsAreFinal() {
        for (Class<?> c : LostRound.class.getNestMembers()) {
            for (Field f : c.getDeclaredFields()) {
                boolean constant = !Modifier.isStatic(f.getModifiers()) || Modifier.isFinal(f.getModifiers());
                Due.is("final, if it is static: " + f, constant, true);
            }
        }
    }

    private static void sourceKeepsToItsWords() throws IOException {
        String source = Files.readString(SOURCE);
        for (String word : new String[] {"try", "catch", "finally", "synchronized", "assert", "instanceof", "package",
            "Object", "equals", "hashCode", "System.out", "Random", "Thread", "@Override"}) {
            Due.is("no " + word, Pattern.compile("(?<![\\w.])" + Pattern.quote(word) + "(?!\\w)").matcher(source).find(), false);
        }
        Due.is("no lambda", source.contains("->"), false);
        Due.is("no method reference", source.contains("::"), false);
        Matcher imports = Pattern.compile("import ([\\w.]+);").matcher(source);
        while (imports.find()) {
            boolean listed = imports.group(1).equals("java.util.NoSuchElementException") || imports.group(1).equals("java.util.Arrays");
            Due.is("import of " + imports.group(1), listed, true);
        }
        for (int i = 0; i < source.length(); i++) {
            if (source.charAt(i) > 127) {
                Due.note("a sign beyond 127 in the source, at " + i);
            }
        }
    }
}
