/** Counts the answers that are not as due, and ends a test with exit code 1 if there was one. */
final class Check {
    static final long BEYOND = -1000000001L;
    static final long FULL = -1000000002L;
    static final long KIND = -1000000003L;
    static final long NONE = -1000000004L;
    static final long MISSING = -1000000006L;
    static final long SIZE = -1000000007L;

    private static final long LONGEST_MILLIS = 600_000;
    private static int asked = 0;
    private static int wrong = 0;

    static {
        // A call that doesn't end fails its test, rather than hold it for ever.
        Thread watch = new Thread(Check::endLate);
        watch.setDaemon(true);
        watch.start();
    }

    private Check() {
    }

    private static void endLate() {
        try {
            Thread.sleep(LONGEST_MILLIS);
        } catch (InterruptedException e) {
            return;
        }
        System.out.println("the test doesn't end");
        Runtime.getRuntime().halt(1);
    }

    static void due(String what, long got, long want) {
        asked++;
        if (got != want) {
            wrong++;
            if (wrong <= 50) {
                System.out.println(what + " answered " + got + ", due is " + want);
            }
        }
    }

    /** Feeds a text to THE TAPE, as many bytes at a time as can be: how many it has. */
    static int feed(DoorCreaks x, String text) {
        int has = 0;
        for (int i = 0; i < text.length(); ) {
            int n = Math.min(4, text.length() - i);
            int bytes = 0;
            for (int j = 0; j < n; j++) {
                bytes = bytes << 8 | text.charAt(i + j) & 255;
            }
            has = x.feed(bytes, n);
            i += n;
        }
        return has;
    }

    /** Makes a text THE LAW: what law() answers; THE TAPE is empty behind it. */
    static int law(DoorCreaks x, String text) {
        x.wipe();
        feed(x, text);
        int answer = x.law();
        x.wipe();
        return answer;
    }

    /** A sheet of 64 bits with these numbers. */
    static void fill(DoorCreaks x, int sheet, long... numbers) {
        x.sheet(sheet, 64, numbers.length);
        for (int i = 0; i < numbers.length; i++) {
            x.write(sheet, i, numbers[i]);
        }
    }

    static void end() {
        System.out.println(asked + " answers, " + wrong + " not as due");
        if (wrong > 0) {
            System.exit(1);
        }
    }
}
