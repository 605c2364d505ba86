import java.io.ByteArrayOutputStream;
import java.io.IOException;
import java.io.PrintStream;
import java.nio.file.Files;
import java.nio.file.Path;
import java.util.ArrayList;
import java.util.List;

/** README.md: its example is Example.java, and prints what its comments say. To be run where README.md is. */
public final class ReadmeTest {
    private static final String PRINTS = "System.out.println(";

    /** The lines between the first fence of Java and its end. */
    private static List<String> example() throws IOException {
        List<String> lines = new ArrayList<>();
        boolean isInside = false;
        for (String line : Files.readAllLines(Path.of("README.md"))) {
            if (isInside && line.equals("```")) {
                return lines;
            }
            if (isInside) {
                lines.add(line);
            }
            isInside = isInside || line.equals("```java");
        }
        return lines;
    }

    /** What the comment behind a line says that it prints: the first word, up to a comma. */
    private static String printedBy(String line) {
        int comment = line.indexOf("// ");
        String said = comment < 0 ? "" : line.substring(comment + 3);
        int comma = said.indexOf(',');
        return comma < 0 ? said : said.substring(0, comma);
    }

    private static String[] printed() {
        PrintStream out = System.out;
        ByteArrayOutputStream caught = new ByteArrayOutputStream();
        System.setOut(new PrintStream(caught, true));
        try {
            Example.main(new String[0]);
        } finally {
            System.setOut(out);
        }
        return caught.toString().split("\\R");
    }

    public static void main(String[] args) throws IOException {
        List<String> lines = example();
        List<String> file = Files.readAllLines(Path.of("src/test/java/Example.java"));
        Check.same("the example", String.join("\n", lines), String.join("\n", file));
        String[] printed = printed();
        int count = 0;
        for (String line : lines) {
            if (line.contains(PRINTS)) {
                Check.same(line.strip(), count < printed.length ? printed[count] : "nothing", printedBy(line));
                count++;
            }
        }
        Check.due("lines that are printed", printed.length, count);
        Check.end("ReadmeTest");
    }
}
