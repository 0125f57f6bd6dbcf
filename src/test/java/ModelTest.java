import java.util.Random;

/** All promises: runs of 512 calls, drawn by fixed seeds, answered by the class and by Model alike. */
public final class ModelTest {
    private static final int CALLS_OF_A_RUN = 512;
    private static final String[] CALLS = {
        "block 4", "of 2", "set 3", "as 2", "holds 2", "rubs 2", "push 2", "oil 2", "pace 1", "ticks 1", "until 2",
        "book 2", "counts 1", "power 0", "tone 0", "great 2", "noise 1", "ahead 2", "from 1", "still 3", "which 2",
        "together 3", "feed 2", "wipe 0", "law 0", "plain 0", "says 1", "sheet 3", "write 2", "copy 5", "draws 1",
        "read 1", "image 0", "undo 0", "tear 0", "count 1", "status 1",
    };
    private static final int[] ODD = {-1, 0, 1, 2, 5, 6, 7, 8, 9, 10, 39, 40, 41, 60, 61, 99, 100, 101, 400, 401, 999,
        1000, 9999, 10000, -99, -100, -9999, -10000, Integer.MIN_VALUE, Integer.MAX_VALUE};

    private final Random random;
    private final Door door = new Door();
    private final Model model = new Model();
    private int asked = 0;
    private final int seed;

    private ModelTest(int seed) {
        this.seed = seed;
        this.random = new Random(seed);
    }

    public static void main(String[] args) {
        for (int seed = 0; seed < 60; seed++) {
            new ModelTest(seed).run();
        }
        faults();
        Check.end();
    }

    private void run() {
        int blocks = random.nextInt(11);
        for (int b = 0; b < blocks; b++) {
            ask("block", new int[] {random.nextInt(6), 1 + small(), small(), random.nextInt(10)}, 0);
        }
        while (asked < CALLS_OF_A_RUN) {
            int left = CALLS_OF_A_RUN - asked;
            if (random.nextInt(40) == 0 && left > 64) {
                newLaw();
            } else if (random.nextInt(40) == 0 && left > 32) {
                sheetOfSizes();
            } else {
                oneCall();
            }
        }
    }

    private int small() {
        return random.nextInt(random.nextInt(4) == 0 ? 999 : 40);
    }

    private void oneCall() {
        String[] call = CALLS[random.nextInt(CALLS.length)].split(" ");
        int[] a = new int[Integer.parseInt(call[1])];
        for (int i = 0; i < a.length; i++) {
            a[i] = argument(call[0], i);
            if (random.nextInt(30) == 0) {
                a[i] = ODD[random.nextInt(ODD.length)];
            }
        }
        if (call[0].equals("tear") && random.nextInt(3) > 0) {
            return;
        }
        ask(call[0], a, random.nextInt(3) == 0 ? random.nextLong() : random.nextInt(301) - 150);
    }

    private int argument(String call, int i) {
        boolean sheets = call.equals("sheet") || call.equals("write") || call.equals("copy") || call.equals("draws")
            || call.equals("read") || call.equals("which") && i == 1;
        if (sheets && (i == 0 || i == 1 && call.equals("which") || i == 2 && call.equals("copy"))) {
            return random.nextInt(4);
        }
        if (call.equals("sheet")) {
            return i == 1 ? new int[] {0, 8, 16, 64, 64}[random.nextInt(5)] : random.nextInt(12);
        }
        if (sheets) {
            return random.nextInt(6);
        }
        switch (call) {
            case "block": return new int[] {random.nextInt(6), 1 + small(), small(), random.nextInt(12)}[i];
            case "pace": return random.nextInt(199) - 99;
            case "ticks": return 1 + random.nextInt(random.nextInt(3) == 0 ? 100 : 12);
            case "until": return 1 + random.nextInt(i == 0 ? 20 : 50);
            case "book": return random.nextInt(i == 0 ? 100 : 3);
            case "great": return i == 0 ? 1 + random.nextInt(40) : random.nextInt(2);
            case "counts": case "count": return random.nextInt(8);
            case "status": return random.nextInt(8) - 1;
            case "from": return 1 + random.nextInt(30);
            case "ahead": return i == 0 ? 1 + random.nextInt(60) : random.nextInt(14);
            case "feed": return i == 0 ? random.nextInt() : 1 + random.nextInt(4);
            default: break;
        }
        if (i == 0 || call.equals("together") && i == 1) {
            return random.nextInt(10);
        }
        switch (call) {
            case "of": return random.nextInt(9);
            case "set": return i == 1 ? 1 + random.nextInt(4) : random.nextInt(60);
            case "as": return random.nextInt(6);
            case "push": return random.nextInt(random.nextInt(3) == 0 ? 9999 : 300) - 100;
            case "oil": return 1 + random.nextInt(40);
            case "still": return i == 1 ? 1 + random.nextInt(20) : random.nextInt(30);
            case "together": return 1 + random.nextInt(60);
            default: return random.nextInt(1000);
        }
    }

    /** 62 calls at most. */
    private void newLaw() {
        String text = random.nextInt(4) == 0 ? broken(random) : text(random, 0, 0);
        ask("wipe", new int[0], 0);
        for (int i = 0; i < text.length() && i < 60; i++) {
            ask("feed", new int[] {text.charAt(i), 1}, 0);
        }
        ask("law", new int[0], 0);
    }

    /** A sheet of just the SIZES that come, so that WHICH has something to find; 30 calls at most. */
    private void sheetOfSizes() {
        int n = 1 + random.nextInt(8);
        int sheet = random.nextInt(4);
        ask("image", new int[0], 0);
        ask("ticks", new int[] {n}, 0);
        ask("sheet", new int[] {sheet, 64, n}, 0);
        for (int i = 0; i < n; i++) {
            long size = ask("book", new int[] {n - 1 - i, 0}, 0);
            ask("write", new int[] {sheet, i}, size);
        }
        ask("undo", new int[0], 0);
        for (int b = 0; b < 10; b++) {
            ask("which", new int[] {b, sheet}, 0);
        }
    }

    private static String text(Random random, int open, int deep) {
        int pick = random.nextInt(deep > 4 || open == 5 ? 4 : 12);
        switch (pick) {
            case 0: return String.valueOf(random.nextInt(random.nextBoolean() ? 1000 : 12));
            case 1: case 2: case 3: return String.valueOf("sbgkdp".charAt(random.nextInt(6)));
            case 4: return "(" + text(random, open + 1, deep + 1) + ")";
            case 5: return "[" + text(random, open + 1, deep + 1) + "," + text(random, open + 1, deep + 1) + "]";
            case 6: return "-" + text(random, open + 1, 9);
            default:
                return text(random, open, deep + 1) + "+-*/".charAt(random.nextInt(4)) + text(random, open, deep + 1);
        }
    }

    private static String broken(Random random) {
        StringBuilder text = new StringBuilder(text(random, 0, 0));
        String signs = "sbgkdp0123456789+-*/()[],--((x ";
        for (int i = random.nextInt(3); i >= 0; i--) {
            int at = random.nextInt(text.length() + 1);
            char sign = signs.charAt(random.nextInt(signs.length()));
            if (at == text.length() || random.nextBoolean()) {
                text.insert(at, sign);
            } else {
                text.setCharAt(at, sign);
            }
        }
        return text.toString();
    }

    /** Many texts, good and broken, for FAULTS and for what they give. */
    private static void faults() {
        Random random = new Random(1);
        for (int i = 0; i < 20000; i++) {
            String text = random.nextInt(3) == 0 ? text(random, 0, 0) : broken(random);
            if (text.length() > 60) {
                text = text.substring(0, 60);
            }
            DoorCreaks x = new DoorCreaks();
            x.block(3, 17, 5, 1);
            x.oil(0, 3);
            x.pace(-7);
            x.ticks(2);
            Check.feed(x, text);
            int fault = Model.Machine.fault(text);
            Check.due("law " + text, x.law(), fault < 0 ? 0 : -1 - fault);
            if (fault < 0) {
                Check.due("says " + text, x.says(0), Model.Machine.value(text, new int[] {2, 17, 5, 0, 3, -7}));
            }
        }
    }

    private long ask(String call, int[] a, long v) {
        StringBuilder told = new StringBuilder(call);
        for (int n : a) {
            told.append(' ').append(n);
        }
        asked++;
        long want = model.answer(call, a, v);
        Check.due("seed " + seed + ", call " + asked + ": " + told + " (" + v + ")", answer(call, a, v), want);
        return want;
    }

    private long answer(String call, int[] a, long v) {
        long[] all = new long[call.equals("write") ? 3 : a.length];
        for (int i = 0; i < a.length; i++) {
            all[i] = a[i];
        }
        if (call.equals("write")) {
            all[2] = v;
        }
        return door.ask(call, all);
    }
}
