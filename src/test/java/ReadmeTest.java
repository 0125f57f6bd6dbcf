import java.io.IOException;
import java.lang.reflect.Method;
import java.lang.reflect.Modifier;
import java.nio.file.Files;
import java.nio.file.Path;
import java.util.List;
import java.util.regex.Matcher;
import java.util.regex.Pattern;

/** README.md holds for the class: its example's answers, a row for each call of the face, the findings by their names. */
public final class ReadmeTest {
    private static final Pattern EXAMPLE = Pattern.compile("^door\\.(\\w+)\\((.*)\\); +// (-?\\d+): .*");
    private static final Pattern ROW = Pattern.compile("^\\| `(\\w+\\(.*\\))` \\| .*");
    private static final Pattern FINDING = Pattern.compile("(-10000000\\d\\d) ([A-Z]+)");

    public static void main(String[] args) throws IOException {
        List<String> page = Files.readAllLines(Path.of("README.md"));
        List<String> document = Files.readAllLines(Path.of("../shared/DOC.md"));
        example(page);
        calls(page, document);
        findings(page, document);
        Check.end();
    }

    private static void example(List<String> page) {
        Door door = new Door();
        int asked = 0;
        for (String line : page) {
            Matcher call = EXAMPLE.matcher(line);
            if (call.matches()) {
                asked++;
                Check.due("README.md: " + line, door.ask(call.group(1), numbers(call.group(2))), Long.parseLong(call.group(3)));
            }
        }
        long told = page.stream().filter(line -> line.startsWith("door.")).count();
        Check.due("calls of the example that tell an answer", asked, told);
        Check.due("whether there are some", asked > 5 ? 1 : 0, 1);
    }

    private static long[] numbers(String told) {
        if (told.isEmpty()) {
            return new long[0];
        }
        String[] words = told.split(", ");
        long[] numbers = new long[words.length];
        for (int i = 0; i < words.length; i++) {
            numbers[i] = Long.decode(words[i]);
        }
        return numbers;
    }

    private static void calls(List<String> page, List<String> document) {
        int face = 0;
        for (String line : document) {
            if (line.matches(" +public (int|long) .*;")) {
                face++;
                String call = line.strip().replaceAll("^public (int|long) |;$", "").replaceAll("(int|long) ", "");
                Check.due("README.md, rows of " + call, rows(page, call), 1);
            }
        }
        Check.due("calls of the document's face", face, 37);
        Check.due("README.md, rows of calls", rows(page, null), face);
        int methods = 0;
        for (Method method : DoorCreaks.class.getDeclaredMethods()) {
            methods += Modifier.isPublic(method.getModifiers()) ? 1 : 0;
        }
        Check.due("calls of the class", methods, face);
    }

    /** How many rows tell a call; null: any one. */
    private static int rows(List<String> page, String call) {
        int rows = 0;
        for (String line : page) {
            Matcher row = ROW.matcher(line);
            rows += row.matches() && (call == null || row.group(1).equals(call)) ? 1 : 0;
        }
        return rows;
    }

    private static void findings(List<String> page, List<String> document) {
        String told = String.join("\n", page);
        int findings = 0;
        for (String line : document) {
            Matcher finding = FINDING.matcher(line);
            while (finding.find()) {
                findings++;
                String row = "| " + finding.group(1) + " | " + finding.group(2) + ": ";
                Check.due("README.md tells " + row, told.contains(row) ? 1 : 0, 1);
            }
        }
        Check.due("findings of the document", findings, 7);
    }
}
