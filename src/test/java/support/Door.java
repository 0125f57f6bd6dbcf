/** A DoorCreaks that is asked by the names of its calls; behind 512 of them its answers would be free. */
final class Door {
    private static final int MOST_CALLS = 512;

    private final DoorCreaks x = new DoorCreaks();
    private int calls = 0;

    long ask(String call, long... a) {
        calls++;
        if (calls > MOST_CALLS) {
            throw new IllegalStateException("a test asks an object more than " + MOST_CALLS + " times");
        }
        if (call.equals("write")) {
            return x.write((int) a[0], (int) a[1], a[2]);
        }
        int[] i = new int[a.length];
        for (int k = 0; k < a.length; k++) {
            i[k] = Math.toIntExact(a[k]);
        }
        return asked(call, i);
    }

    private long asked(String call, int[] a) {
        switch (call) {
            case "block": return x.block(a[0], a[1], a[2], a[3]);
            case "of": return x.of(a[0], a[1]);
            case "set": return x.set(a[0], a[1], a[2]);
            case "as": return x.as(a[0], a[1]);
            case "holds": return x.holds(a[0], a[1]);
            case "rubs": return x.rubs(a[0], a[1]);
            case "push": return x.push(a[0], a[1]);
            case "oil": return x.oil(a[0], a[1]);
            case "pace": return x.pace(a[0]);
            case "ticks": return x.ticks(a[0]);
            case "until": return x.until(a[0], a[1]);
            case "book": return x.book(a[0], a[1]);
            case "counts": return x.counts(a[0]);
            case "power": return x.power();
            case "tone": return x.tone();
            case "great": return x.great(a[0], a[1]);
            case "noise": return x.noise(a[0]);
            case "ahead": return x.ahead(a[0], a[1]);
            case "from": return x.from(a[0]);
            case "still": return x.still(a[0], a[1], a[2]);
            case "which": return x.which(a[0], a[1]);
            case "together": return x.together(a[0], a[1], a[2]);
            case "feed": return x.feed(a[0], a[1]);
            case "wipe": return x.wipe();
            case "law": return x.law();
            case "plain": return x.plain();
            case "says": return x.says(a[0]);
            case "sheet": return x.sheet(a[0], a[1], a[2]);
            case "copy": return x.copy(a[0], a[1], a[2], a[3], a[4]);
            case "draws": return x.draws(a[0]);
            case "read": return x.read(a[0]);
            case "image": return x.image();
            case "undo": return x.undo();
            case "tear": return x.tear();
            case "count": return x.count(a[0]);
            case "status": return x.status(a[0]);
            default: throw new IllegalArgumentException("no such call: " + call);
        }
    }

    /** Feeds a text to THE TAPE, as many bytes at a time as can be: how many it has. */
    long feedText(String text) {
        long has = ask("count", 4);
        for (int i = 0; i < text.length(); i += 4) {
            int n = Math.min(4, text.length() - i);
            int bytes = 0;
            for (int j = 0; j < n; j++) {
                bytes = bytes << 8 | text.charAt(i + j) & 255;
            }
            has = ask("feed", bytes, n);
        }
        return has;
    }
}
