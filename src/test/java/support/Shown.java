import java.util.ArrayList;
import java.util.List;

/** The calls, in their order, that show all that an object holds (status() apart); they leave it changed. */
final class Shown {
    static final List<String> ROWS = rows();

    private Shown() {
    }

    private static List<String> rows() {
        List<String> rows = new ArrayList<>();
        live(rows);
        ahead(rows);
        sheets(rows);
        rows.addAll(List.of("says 0", "says 9", "law", "count 4", "says 0", "wipe"));
        rows.addAll(List.of("ticks 2", "book 0 0", "book 0 1", "book 0 2", "book 2 2"));
        eachBlock(rows, "of", "5");
        rows.add("undo");
        live(rows);
        rows.addAll(List.of("says 0", "says 9", "ticks 1", "book 0 2"));
        eachBlock(rows, "of", "5");
        rows.addAll(List.of("tear", "undo"));
        return rows;
    }

    private static void live(List<String> rows) {
        for (int what = 0; what <= 7; what++) {
            rows.add("count " + what);
        }
        for (int c = 0; c <= 6; c++) {
            rows.add("counts " + c);
        }
        for (int what = 0; what <= 6; what++) {
            eachBlock(rows, "of", String.valueOf(what));
        }
        for (int i : new int[] {0, 1, 2, 5, 98, 99}) {
            rows.add("book " + i + " 0");
            rows.add("book " + i + " 2");
        }
        rows.addAll(List.of("tone", "great 1 0", "great 1 1", "noise 0", "noise 2", "noise 9"));
    }

    private static void ahead(List<String> rows) {
        for (int what = 0; what <= 3; what++) {
            rows.add("ahead 12 " + what);
        }
    }

    private static void sheets(List<String> rows) {
        for (int s = 0; s <= 3; s++) {
            for (int i : new int[] {0, 1, 2, 39, 40}) {
                rows.add("write " + s + " " + i + " 77");
            }
            // By these it shows how many bits it has.
            rows.add("write " + s + " 0 40000");
            rows.add("write " + s + " 0 0");
        }
    }

    private static void eachBlock(List<String> rows, String call, String what) {
        for (int b = 0; b <= 9; b++) {
            rows.add(call + " " + b + " " + what);
        }
    }
}
