import java.io.IOException;
import java.nio.file.Files;
import java.nio.file.Path;
import java.util.HashSet;
import java.util.List;
import java.util.Set;
import java.util.regex.Matcher;
import java.util.regex.Pattern;

/** What of ../shared/LANGUAGE.md can be seen from the text of the class, line by line. */
public final class LanguageTest {
    private static final String[] FORBIDDEN = {
        "\\b(throw|throws|try|catch|finally|synchronized|assert|import|package|protected|volatile|native)\\b", "->", "::",
        "Exact\\(", "\\b(HashMap|Object|System\\.(?!arraycopy)|Thread|Random)",
    };
    private static final Pattern METHOD =
        Pattern.compile("^(    |        )(public |private )?(static )?(int|long|boolean|void) (\\w+)\\((.*)\\) \\{$");

    public static void main(String[] args) throws IOException {
        List<String> lines = Files.readAllLines(Path.of("src/main/java/DoorCreaks.java"));
        Set<String> face = new HashSet<>();
        Set<String> own = new HashSet<>();
        int began = -1;
        String end = null;
        for (int i = 0; i < lines.size(); i++) {
            String line = lines.get(i).replaceAll("/\\*\\*.*\\*/|^ *(/\\*\\*| \\*).*|//.*|'.'", "");
            for (String forbidden : FORBIDDEN) {
                Check.due("line " + (i + 1) + ", " + forbidden, Pattern.compile(forbidden).matcher(line).find() ? 1 : 0, 0);
            }
            madeOnce(i, line);
            Matcher method = METHOD.matcher(line);
            if (method.matches()) {
                boolean isFace = "public ".equals(method.group(2));
                (isFace ? face : own).add(method.group(5));
                Check.due("parameters above 7 of " + method.group(5), method.group(6).split(",").length > 7 ? 1 : 0, 0);
                began = i;
                end = method.group(1) + "}";
            }
            if (line.equals(end)) {
                Check.due("lines above 60, to line " + (i + 1), i - began > 60 ? 1 : 0, 0);
                end = null;
            }
        }
        Check.due("methods of the face", face.size(), 37);
        own.retainAll(face);
        Check.due("own methods with names of the face " + own, own.size(), 0);
        Check.end();
    }

    /** Things are made where a field is set at first, or in a constructor. */
    private static void madeOnce(int i, String line) {
        boolean makes = line.contains(" new ");
        boolean atFirst = line.matches(" +private (static )?final .* = new .*;")
            || line.matches(" +(sheets\\[s\\]|blocks\\[b\\]) = new (Sheet|Block)\\(\\);");
        Check.due("line " + (i + 1) + " makes something in a call", makes && !atFirst ? 1 : 0, 0);
    }
}
