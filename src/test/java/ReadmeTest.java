import java.io.IOException;
import java.nio.file.Files;
import java.nio.file.Path;
import java.util.ArrayList;
import java.util.List;

/** The example of README.md, run; and that README.md tells just these lines. */
public final class ReadmeTest {
    public static void main(String[] args) throws IOException {
        example();
        isInReadme();
        Due.close();
    }

    static long packed(String upToEight) {
        long s = 0;
        for (int i = upToEight.length() - 1; i >= 0; i--) {
            s = s << 8 | upToEight.charAt(i);
        }
        return s;
    }

    private static void example() {
        TermReader reader = new TermReader();
        reader.op(700, 0, packed("likes"));
        reader.text(packed("a likes "));
        reader.text(packed("f(X). "));
        int t = reader.read();
        Due.same("the first term", t, 0);
        int size = reader.write(t);
        Due.same("its size", size, 13);
        StringBuilder shown = new StringBuilder();
        for (int i = 0; i < size; i++) {
            shown.append((char) reader.written(i));
        }
        Due.same("what is shown", shown.toString(), "a likes f(_0)");
        reader.again();
        int u = reader.read();
        Due.same("the second term", u, 1);
        boolean same = reader.alike(t, u);
        Due.same("alike", same, true);
    }

    private static void isInReadme() throws IOException {
        List<String> here = new ArrayList<>();
        for (String line : Files.readAllLines(Path.of("src/test/java/ReadmeTest.java"))) {
            here.add(line.strip());
        }
        boolean inExample = false;
        for (String line : Files.readAllLines(Path.of("README.md"))) {
            if (line.startsWith("```")) {
                inExample = line.equals("```java");
            } else if (inExample) {
                Due.same("here stands " + line, here.contains(line.replaceAll("//.*", "").strip()), true);
            }
        }
    }
}
