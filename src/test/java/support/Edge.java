import java.util.Map;

/**
 * A test of one sentence of the document, told in rows. A row is a call, its arguments and the answer that is due:
 * "push 0 -5 = -5". Without " = .." any answer will do. "3* .." is asked three times. Other rows:
 * "NEW" goes on with a new object; "TEXT 'b+s'" feeds it; "LAW 'b+s'" wipes THE TAPE, feeds it and asks law() (0 is
 * due); "NUMBERS 0 64: 5 -6" makes a sheet of these; "STANDING" makes a BLOCK that "JUMP n" has moved n times in a TICK.
 */
final class Edge {
    private static final Map<String, Long> WORDS = Map.ofEntries(
        Map.entry("BEYOND", Check.BEYOND), Map.entry("FULL", Check.FULL), Map.entry("KIND", Check.KIND),
        Map.entry("NONE", Check.NONE), Map.entry("MISSING", Check.MISSING), Map.entry("SIZE", Check.SIZE),
        Map.entry("MIN", (long) Integer.MIN_VALUE), Map.entry("MAX", (long) Integer.MAX_VALUE),
        Map.entry("LONGMIN", Long.MIN_VALUE), Map.entry("LONGMAX", Long.MAX_VALUE));

    private final String name;
    private Door door = new Door();

    private Edge(String name) {
        this.name = name;
    }

    /** The section is named as Document names it; words are of the sentence, as many as tell which one it is. */
    static void of(String section, String words, String... rows) {
        Document.ask(section, words);
        Edge edge = new Edge(section + ", \"" + words + "\"");
        for (int i = 0; i < rows.length; i++) {
            edge.row(i + 1, rows[i]);
        }
    }

    /** A new object behind these rows. */
    static Door behind(String... rows) {
        Edge edge = new Edge("a setting");
        for (int i = 0; i < rows.length; i++) {
            edge.row(i + 1, rows[i]);
        }
        return edge.door;
    }

    static long number(String word) {
        Long known = WORDS.get(word);
        return known == null ? Long.parseLong(word) : known;
    }

    /** The answer to a row that is no more than a call and its arguments. */
    static long call(Door door, String row) {
        String[] words = row.split(" ");
        long[] a = new long[words.length - 1];
        for (int i = 0; i < a.length; i++) {
            a[i] = number(words[i + 1]);
        }
        return door.ask(words[0], a);
    }

    private void row(int place, String told) {
        int due = told.lastIndexOf(" = ");
        String row = due < 0 ? told : told.substring(0, due);
        int times = 1;
        if (row.matches("\\d+\\* .*")) {
            times = Integer.parseInt(row.substring(0, row.indexOf('*')));
            row = row.substring(row.indexOf('*') + 2);
        }
        for (int i = 0; i < times; i++) {
            long answer = answer(row);
            if (due >= 0) {
                Check.due(name + ", row " + place + ": " + row, answer, number(told.substring(due + 3)));
            } else if (row.startsWith("LAW ") || row.equals("STANDING")) {
                Check.due(name + ", row " + place + ": " + row, answer, 0);
            }
        }
    }

    private long answer(String row) {
        String first = row.split(" ")[0];
        switch (first) {
            case "NEW":
                door = new Door();
                return 0;
            case "TEXT":
                return door.feedText(quoted(row));
            case "LAW":
                door.ask("wipe");
                door.feedText(quoted(row));
                return door.ask("law");
            case "NUMBERS":
                return numbers(row);
            case "STANDING":
                door.ask("pace", 0);
                return door.ask("block", 0, 1, 0, 1);
            case "JUMP":
                return jump(Integer.parseInt(row.split(" ")[1]));
            default:
                return call(door, row);
        }
    }

    private static String quoted(String row) {
        return row.substring(row.indexOf('\'') + 1, row.lastIndexOf('\''));
    }

    private long numbers(String row) {
        String[] words = row.replace(":", "").split(" ");
        int n = words.length - 3;
        door.ask("sheet", number(words[1]), number(words[2]), n);
        for (int i = 0; i < n; i++) {
            door.ask("write", number(words[1]), i, number(words[i + 3]));
        }
        return n;
    }

    /** BLOCK 0, of GO 0, stands at THE HAND; from n times 999 ahead of it, it comes back in n ROUNDS of 999 STEPS. */
    private long jump(int n) {
        for (int way = -999 * n; way < 0; way -= Math.max(-9999, way)) {
            door.ask("push", 0, Math.max(-9999, way));
        }
        return door.ask("ticks", 1);
    }
}
