import java.io.IOException;
import java.lang.reflect.Constructor;
import java.lang.reflect.Field;
import java.lang.reflect.Method;
import java.lang.reflect.Modifier;
import java.nio.file.Files;
import java.nio.file.Path;
import java.util.TreeSet;

/** The face of the class is the document's, and its file keeps to what can be seen in its text. */
final class FaceTest {
    static final String METHODS = "append truncate load errorCode errorPosition report gate put step jam"
        + " sensor setLimits setTare item measured sampleOf sample count decided meanGood meanError vibration"
        + " residue bestWindow weightWith samplesFor arrival openTicks opensAt fate spacing";

    public static void main(String[] args) throws IOException {
        publicMethods();
        otherMembers();
        faceOfTheDocument();
        text();
        Check.finish("FaceTest");
    }

    private static void publicMethods() {
        TreeSet<String> due = new TreeSet<>(java.util.List.of(METHODS.split(" ")));
        TreeSet<String> found = new TreeSet<>();
        for (Method method : CheckWeigher.class.getDeclaredMethods()) {
            if (Modifier.isPublic(method.getModifiers())) {
                found.add(method.getName());
            } else {
                Check.same("private: " + method, Modifier.isPrivate(method.getModifiers()), true);
                Check.same("own name: " + method, due.contains(method.getName()), false);
            }
        }
        Check.same("public methods " + found, found.equals(due), true);
    }

    private static void otherMembers() {
        Check.same("final", Modifier.isFinal(CheckWeigher.class.getModifiers()), true);
        Check.same("constructors", CheckWeigher.class.getDeclaredConstructors().length, 1);
        for (Constructor<?> constructor : CheckWeigher.class.getDeclaredConstructors()) {
            Check.same("no parameters", constructor.getParameterCount(), 0);
        }
        for (Field field : CheckWeigher.class.getDeclaredFields()) {
            boolean isDue = field.getName().equals("NONE") || Modifier.isPrivate(field.getModifiers());
            Check.same("private: " + field, isDue, true);
        }
        int fields = 0;
        int classes = 1;
        for (Class<?> inside : CheckWeigher.class.getDeclaredClasses()) {
            classes++;
            Check.same("static: " + inside, Modifier.isStatic(inside.getModifiers()), true);
            int own = 0;
            for (Field field : inside.getDeclaredFields()) {
                own += Modifier.isStatic(field.getModifiers()) ? 0 : 1;
            }
            fields = Math.max(fields, own);
            for (Method method : inside.getDeclaredMethods()) {
                Check.same("own name: " + method, (" " + METHODS + " ").contains(" " + method.getName() + " "), false);
            }
        }
        Check.same("classes " + classes, classes <= 12, true);
        Check.same("fields " + fields, fields <= 20, true);
    }

    /** Each line of the document's face stands in the file, its throws clause in the same order. */
    private static void faceOfTheDocument() throws IOException {
        String document = Files.readString(Path.of("../shared/DOC.md"));
        String program = Files.readString(Path.of("src/main/java/CheckWeigher.java")).replaceAll("\\s+", " ");
        int from = document.indexOf("public final class CheckWeigher {");
        String face = document.substring(from, document.indexOf("```", from));
        int lines = 0;
        for (String line : face.split("\n")) {
            String due = line.trim();
            if (due.startsWith("public") && due.endsWith(";")) {
                lines++;
                String end = due.contains("(") ? " {" : ";";
                String whole = due.substring(0, due.length() - 1) + end;
                Check.same("face: " + whole, program.contains(whole), true);
            }
        }
        Check.same("lines of the face", lines, 33);
    }

    private static void text() throws IOException {
        String text = Files.readString(Path.of("src/main/java/CheckWeigher.java"));
        String[] barred = {"catch", "->", "::", "finally", "synchronized", "assert", "package ", "System.out", "Exact",
            "var ", "instanceof"};
        for (String word : barred) {
            Check.same("without " + word, text.contains(word), false);
        }
        Check.same("one import", text.split("\nimport ", -1).length - 1 + (text.startsWith("import ") ? 1 : 0), 1);
    }
}
