import java.io.IOException;
import java.nio.file.Files;
import java.nio.file.Path;

/** The example of README.md, run, and a look that README.md shows the very lines that are run here. */
final class ExampleTest {
    public static void main(String[] args) throws IOException {
        example();
        readme();
        Check.finish("ExampleTest");
    }

    private static void example() {
        CheckWeigher x = new CheckWeigher();
        put(x, "belt 10 100 200 300; gate over 250 3; limits 50 60;");
        int gates = x.load();                       // 1
        int item = x.put(70, 40);                   // 0: the first item, 70 grams, 40 millimetres
        int decisions = x.step(21);                 // 1: its front is at 210, behind the table
        int weight = x.measured(item);              // 70
        int kind = x.item(item, 6);                 // 2: over
        int opens = x.opensAt(0);                   // 25: the gate opens when the item comes to it
        int later = x.fate(item);                   // 3: it will be diverted
        x.step(4);
        int state = x.item(item, 3);                // 3: it is
        int waiting = x.report(10);                 // 1: the sensor has not yet confirmed it
        int[] got = {gates, item, decisions, weight, kind, opens, later, state, waiting};
        int[] due = {1, 0, 1, 70, 2, 25, 3, 3, 1};
        for (int i = 0; i < due.length; i++) {
            Check.same("README's answer " + i, got[i], due[i]);
        }
    }

    /** Fills the empty buffer with a text: 20 bytes a call, the rest of the last call cut off again. */
    static void put(CheckWeigher x, String text) {
        for (int i = 0; i < text.length(); i += 20) {
            int[] four = new int[5];
            for (int k = 0; k < 20; k++) {
                int sign = i + k < text.length() ? text.charAt(i + k) : ' ';
                four[k / 4] = four[k / 4] << 8 | sign;
            }
            x.append(four[0], four[1], four[2], four[3], four[4]);
        }
        x.truncate(text.length());
    }

    private static void readme() throws IOException {
        String readme = Files.readString(Path.of("README.md"));
        String here = Files.readString(Path.of("src/test/java/ExampleTest.java"));
        String[] parts = readme.split("```java\n", -1);
        int lines = 0;
        for (int i = 1; i < parts.length; i++) {
            for (String line : parts[i].substring(0, parts[i].indexOf("```")).split("\n")) {
                lines++;
                Check.same("README's line is run: " + line.trim(), here.contains(line.trim()), true);
            }
        }
        Check.same("README has the example", lines > 20, true);
        for (String method : FaceTest.METHODS.split(" ")) {
            Check.same("README names " + method, readme.contains("`" + method + "("), true);
        }
        for (String test : new java.io.File("src/test/java").list()) {
            Check.same("README names " + test, readme.contains("`" + test.replace(".java", "") + "`"), true);
        }
    }
}
