/** The edges of the Terms' section 2, but for THE LAW, and of promises 11 to 18. */
final class TicksEdges {
    /** Five pairs of BLOCKS, each 2 apart on a spring of its own: all change places in each ROUND. */
    private static final String[] TEN = {
        "block 0 1 0 0", "block 0 1 0 1", "block 0 1 0 0", "block 0 1 0 1", "block 0 1 0 0", "block 0 1 0 1",
        "block 0 1 0 0", "block 0 1 0 1", "block 0 1 0 0", "block 0 1 0 1", "push 0 2", "push 2 2", "push 4 2",
        "push 6 2", "push 8 2",
    };

    private TicksEdges() {
    }

    static void all() {
        order();
        moves();
        steps();
        rounds();
        atLast();
        sizeWideNoise();
        theBook();
        theCounts();
        promise11();
        promise12();
        promise13();
        promise14();
        promise15();
        promise16();
        promise17();
        promise18();
    }

    private static String[] withTen(String... rows) {
        String[] all = new String[TEN.length + rows.length];
        System.arraycopy(TEN, 0, all, 0, TEN.length);
        System.arraycopy(rows, 0, all, TEN.length, rows.length);
        return all;
    }

    private static void order() {
        Edge.of("Terms 2", "A TICK, in this order: THE HAND goes on by its PACE.",
            "ticks 1", "count 6 = 1", "pace 99", "ticks 1", "count 6 = 100", "pace -99", "ticks 2", "count 6 = -98",
            "pace 0", "ticks 3", "count 6 = -98",
            // It goes on ahead of the ROUNDS: in the first TICK it draws by 2, above HOLDS 1.
            "NEW", "block 0 1 0 1", "pace 2", "ticks 1 = 1", "of 0 5 = 2");
        Edge.of("Terms 2", "all BLOCKS at once by PLACES as they stand ahead of each:",
            // Two BLOCKS, 2 apart, change places; one by one, the first would come to the second and stay.
            "block 0 1 0 0", "block 0 1 0 1", "push 0 2", "ticks 1 = 80", "of 0 5 = 2", "of 1 5 = 0",
            // By RUBS 1: 0 goes 3, 1, 1, 0, 1 and 1 the ROUND behind it 2, 1, 1, 0, 1.
            "NEW", "block 1 1 1 1", "block 1 1 1 1", "pace 8", "ticks 1 = 8", "of 0 5 = 6", "of 1 5 = 5",
            "book 0 2 = 11");
    }

    private static void moves() {
        Edge.of("Terms 2", "a BLOCK that didn't move in this TICK yet moves, if its PULL (no sign) is above HOLDS by its STOOD;",
            "pace 0", "block 0 5 0 1", "push 0 -5", "ticks 1 = 0", "push 0 -1 = -6", "ticks 1 = 1", "of 0 5 = 0",
            "push 0 5", "ticks 1 = 0", "push 0 1 = 6", "ticks 1 = 1", "of 0 5 = 0");
        Edge.of("Terms 2", "a BLOCK that didn't move in this TICK yet moves, if its PULL (no sign) is above HOLDS by its STOOD;",
            // By STOOD 3 HOLDS are 5, by STOOD 4 and 5 they are 6.
            "block 0 5 0 1", "pace 0", "ticks 3", "pace 6", "ticks 1 = 1", "NEW", "block 0 5 0 1", "pace 0", "ticks 4",
            "pace 6", "ticks 1 = 0", "of 0 6 = 5", "pace 1", "ticks 1 = 1",
            // HOLDS of 0: OILED by 3 DROPS moves by a PULL of 1, stays by a PULL of 0.
            "NEW", "pace 0", "block 2 6 0 1", "oil 0 3", "ticks 1 = 0", "push 0 1", "ticks 1 = 1");
        Edge.of("Terms 2", "one that did moves, if its PULL is above RUBS;",
            // PULL 10, above HOLDS 9: 1 STEP; then PULL 5, not above RUBS 5; both ways.
            "pace 0", "block 1 9 5 5", "push 0 -2", "ticks 1 = 1", "of 0 5 = -1", "push 0 3", "ticks 1 = 1",
            "of 0 5 = 1",
            // PULL 5 is above RUBS 4, and HOLDS 9 are asked no more.
            "NEW", "pace 0", "block 1 9 4 5", "push 0 -2", "ticks 1 = 2", "of 0 5 = 0", "push 0 2", "ticks 1 = 2",
            "of 0 5 = 0",
            // In the TICK behind it HOLDS 9 are asked again.
            "NEW", "pace 0", "block 1 9 5 5", "push 0 -2", "ticks 1 = 1", "set 0 2 4", "ticks 1 = 0", "of 0 5 = -1");
    }

    private static void steps() {
        Edge.of("Terms 2", "by STEPS towards its PULL: PULL (no sign) less RUBS,",
            // PULL 15: (15 - 4) / 3; PULL 6: (6 - 4) / 3; PULL 3 is not above RUBS 4.
            "pace 0", "block 1 1 4 3", "push 0 -5", "ticks 1 = 2", "of 0 5 = -1", "book 0 2 = 4", "push 0 6",
            "ticks 1 = 2", "of 0 5 = 1", "book 0 2 = 4");
        Edge.of("Terms 2", "by the STIFF of both springs at it together (1 at least)",
            // PULL of 0 is 500, by 2 and 3: 100. That of 1 is 300.
            "pace 0", "block 1 1 0 2", "block 0 999 0 3", "push 0 100", "ticks 1 = 1", "of 0 5 = 0", "of 1 5 = 0",
            // Springs 0 and 1; 1 and 0; the last one has but one.
            "NEW", "pace 0", "block 1 1 0 0", "block 0 999 0 1", "push 0 7", "ticks 1 = 1", "of 0 5 = 0", "NEW",
            "pace 0", "block 1 1 0 1", "block 0 999 0 0", "push 0 7", "ticks 1 = 1", "of 0 5 = 0", "NEW", "pace 0",
            "block 0 999 0 0", "block 1 1 0 6", "push 1 -7", "ticks 1 = 1", "of 1 5 = 0",
            // Without springs nothing draws it, though it holds by 0.
            "NEW", "LAW '0'", "block 3 1 0 0", "push 0 500", "ticks 1 = 0", "of 0 5 = 500", "NEW", "LAW '0'",
            "block 3 1 0 0", "block 3 1 0 0", "push 0 500", "ticks 1 = 0", "of 0 5 = 500");
        Edge.of("Terms 2", "(1 at least), 1 at least and 999 at most.",
            // RUBS above PULL, as much as PULL, 1 less: 1 STEP each; 2 less: 2.
            "pace 0", "block 1 3 9 1", "push 0 4", "ticks 1 = 1", "of 0 5 = 3", "push 0 6 = 9", "ticks 1 = 1",
            "of 0 5 = 8", "push 0 2 = 10", "ticks 1 = 1", "of 0 5 = 9", "push 0 2 = 11", "ticks 1 = 1", "of 0 5 = 9",
            "NEW", "pace 0", "block 1 1 0 1", "push 0 -998", "ticks 1 = 1", "book 0 2 = 998", "push 0 -999",
            "ticks 1 = 1", "book 0 2 = 999", "push 0 -1000", "ticks 1 = 2", "book 0 2 = 1000", "push 0 999",
            "ticks 1 = 1", "push 0 1000", "ticks 1 = 2", "of 0 5 = 0");
    }

    private static void rounds() {
        Edge.of("Terms 2", "ROUNDS end when none moves, or behind 40 (then it CHATTERS).",
            "STANDING", "JUMP 0 = 0", "count 2 = 0", "JUMP 1 = 1", "count 2 = 0", "JUMP 39 = 39", "of 0 5 = 0",
            "count 2 = 0", "JUMP 40 = 40", "of 0 5 = 0", "count 2 = 1",
            // The 41st ROUND is one of the next TICK.
            "JUMP 41 = 40", "of 0 5 = -999", "count 2 = 2", "ticks 1 = 1", "of 0 5 = 0", "count 2 = 2");
        Edge.of("Terms 2", "ROUNDS end when none moves, or behind 40 (then it CHATTERS).",
            "ticks 5", "count 2 = 0", "NEW", "block 0 1 0 0", "block 0 1 0 1", "push 0 2", "ticks 3 = 80",
            "count 2 = 3", "push 0 -1", "ticks 1 = 0", "count 2 = 3");
    }

    private static void atLast() {
        Edge.of("Terms 2", "At last STOOD of each that moved is 0, of others 1 more;",
            "block 0 1 0 1", "block 0 999 0 0", "pace 2", "ticks 3", "of 0 6 = 0", "of 1 6 = 3", "pace 0", "ticks 2",
            "of 0 6 = 2", "pace 3", "ticks 1 = 1", "of 0 6 = 0", "of 1 6 = 6",
            // Also of one that is back where it was.
            "NEW", "block 0 1 0 0", "block 0 1 0 1", "push 0 2", "ticks 1 = 80", "of 0 5 = 2", "of 0 6 = 0",
            "of 1 6 = 0");
        Edge.of("Terms 2", "At last STOOD of each that moved is 0, of others 1 more;",
            "block 0 999 0 0", "9* ticks 100", "ticks 98", "of 0 6 = 998", "ticks 1", "of 0 6 = 999", "ticks 1",
            "of 0 6 = 999");
        Edge.of("Terms 2", "DROPS of each that moved are 1 less (0 at least).",
            // Once for a TICK of 40 ROUNDS; BLOCK 2 doesn't move.
            "block 0 1 0 0", "block 0 1 0 1", "block 0 1 0 0", "push 0 2", "set 0 4 2", "set 1 4 1", "set 2 4 1",
            "ticks 1 = 80", "of 0 4 = 1", "of 1 4 = 0", "of 2 4 = 1", "ticks 1", "of 0 4 = 0", "of 1 4 = 0",
            "of 2 4 = 1", "ticks 1", "of 0 4 = 0", "of 1 4 = 0", "set 0 4 99", "ticks 99", "of 0 4 = 0");
    }

    private static void sizeWideNoise() {
        Edge.of("Terms 2", "SIZE of a TICK: how often BLOCKS moved in it (all ROUNDS); WIDE: which moved at all, as a set;",
            "ticks 1 = 0", "book 0 0 = 0", "book 0 1 = 0", "book 0 2 = 0");
        Edge.of("Terms 2", "SIZE of a TICK: how often BLOCKS moved in it (all ROUNDS); WIDE: which moved at all, as a set;",
            withTen("ticks 1 = 400", "book 0 0 = 400", "book 0 1 = 1023", "book 0 2 = 800", "count 2 = 1"));
        Edge.of("Terms 2", "NOISE: all STEPS (no sign) together.",
            // BLOCK 0 goes 2 ahead, BLOCK 2 goes 3 back, BLOCK 1 holds.
            "block 0 1 0 1", "block 0 999 0 0", "block 0 1 0 1", "push 2 3", "pace 2", "ticks 1 = 2", "book 0 2 = 5");
        Edge.of("Terms", "Sets are told by bits.",
            "block 0 1 0 1", "block 0 999 0 0", "block 0 1 0 1", "push 2 3", "pace 2", "ticks 1 = 2", "book 0 1 = 5",
            "ticks 1 = 1", "book 0 1 = 1", "pace 0", "ticks 1 = 0", "book 0 1 = 0", "push 2 3", "ticks 1 = 1",
            "book 0 1 = 4",
            // Each KIND has its bit: 63 are all.
            "NUMBERS 0 8: 0", "which 0 0 = 63");
    }

    private static void theBook() {
        Edge.of("Terms 2", "THE BOOK keeps SIZE, WIDE, NOISE of the latest 100 TICKS.",
            "count 7 = 0", "book 0 2 = BEYOND", "block 0 1 0 1", "pace 2", "ticks 1", "count 7 = 1", "book 0 2 = 2",
            "book 1 2 = BEYOND", "pace 3", "ticks 98", "count 7 = 99", "book 97 2 = 3", "book 98 2 = 2",
            "book 99 2 = BEYOND", "ticks 1", "count 7 = 100", "book 98 2 = 3", "book 99 2 = 2", "book 100 2 = BEYOND",
            "ticks 1", "count 7 = 100", "book 99 2 = 3", "book 100 2 = BEYOND", "count 1 = 101", "pace 4", "ticks 100",
            "book 0 2 = 4", "book 99 2 = 4", "pace 5", "ticks 1", "book 0 2 = 5", "book 1 2 = 4", "book 99 2 = 4",
            "count 7 = 100", "count 1 = 202");
    }

    private static void theCounts() {
        Edge.of("Terms 2", "COUNTS: how many TICKS ever had a SIZE of CLASS 0 (SIZE 0), 1 (1), 2 (2 to 3), 3 (4 to 7), 4 (8 to 15),",
            "STANDING", "JUMP 0 = 0", "counts 0 = 1", "counts 1 = 0", "JUMP 1 = 1", "counts 1 = 1", "counts 2 = 0",
            "JUMP 2 = 2", "counts 2 = 1", "JUMP 3 = 3", "counts 2 = 2", "counts 3 = 0", "JUMP 4 = 4", "counts 3 = 1",
            "JUMP 7 = 7", "counts 3 = 2", "counts 4 = 0", "JUMP 8 = 8", "counts 4 = 1", "JUMP 15 = 15", "counts 4 = 2",
            "counts 5 = 0", "JUMP 16 = 16", "counts 5 = 1", "JUMP 31 = 31", "counts 5 = 2", "counts 6 = 0",
            "JUMP 32 = 32", "counts 6 = 1", "JUMP 33 = 33", "counts 6 = 2", "JUMP 40 = 40", "counts 6 = 3",
            "counts 0 = 1", "counts 1 = 1", "counts 2 = 2", "counts 3 = 2", "counts 4 = 2", "counts 5 = 2",
            // Ever: also of those that THE BOOK keeps no more.
            "3* ticks 100", "counts 0 = 301", "counts 1 = 1", "counts 6 = 3");
        Edge.of("Terms 2", "6 (32 and more)", withTen("ticks 1 = 400", "counts 6 = 1", "counts 5 = 0", "counts 0 = 0"));
        Edge.of("Terms 2", "how many CHATTERED.",
            "count 2 = 0", "STANDING", "JUMP 39", "count 2 = 0", "JUMP 40", "count 2 = 1", "2* ticks 100",
            "count 2 = 1");
    }

    private static void promise11() {
        Edge.of("Promise 11", "n TICKS (1 to 100): SIZE of the last one.",
            // It slips in each second TICK, by 4 and by 2.
            "block 0 5 2 1", "pace 3", "ticks 1 = 0", "count 1 = 1", "ticks 1 = 2", "ticks 3 = 0", "ticks 1 = 2",
            "count 1 = 6", "ticks 99 = 0", "count 1 = 105", "ticks 100 = 0", "count 1 = 205", "ticks 1 = 2");
        Edge.of("Promise 11", "BEYOND.",
            "ticks 0 = BEYOND", "ticks -1 = BEYOND", "ticks 101 = BEYOND", "ticks MIN = BEYOND", "ticks MAX = BEYOND",
            "count 1 = 0", "count 6 = 0", "count 7 = 0", "status 0 = 5", "ticks 100 = 0", "count 1 = 100");
    }

    private static void promise12() {
        Edge.of("Promise 12", "n TICKS (1 to 100) at most, till one has a SIZE of m (1 to 400) or more: how many there were.",
            "block 0 5 2 1", "pace 3", "until 1 100 = 2", "until 2 100 = 2", "count 1 = 4", "until 3 10 = 10",
            "count 1 = 14", "until 1 1 = 1", "book 0 0 = 0", "until 1 1 = 1", "book 0 0 = 2", "until 2 1 = 1",
            "until 2 2 = 1", "count 1 = 18", "until 3 100 = 100", "until 400 100 = 100", "count 1 = 218");
        Edge.of("Promise 12", "till one has a SIZE of m (1 to 400) or more",
            withTen("until 400 100 = 1", "until 399 100 = 1", "until 1 100 = 1", "count 1 = 3"));
        Edge.of("Promise 12", "BEYOND.",
            "until 0 1 = BEYOND", "until -1 1 = BEYOND", "until 401 1 = BEYOND", "until MIN 1 = BEYOND",
            "until MAX 1 = BEYOND", "until 1 0 = BEYOND", "until 1 -1 = BEYOND", "until 1 101 = BEYOND",
            "until 1 MIN = BEYOND", "until 1 MAX = BEYOND", "count 1 = 0", "count 6 = 0", "status 0 = 10",
            "until 400 1 = 1", "until 1 100 = 100", "count 1 = 101");
    }

    private static void promise13() {
        Edge.of("Promise 13", "Of the i-th latest TICK (0: the latest) of THE BOOK: what 0 SIZE, 1 WIDE, 2 NOISE.",
            "block 0 999 0 0", "block 0 5 2 1", "push 0 3", "ticks 1", "push 1 -6", "ticks 1 = 2",
            // The 3 to BLOCK 0 and 6 more: 9 less RUBS 2, then 2.
            "book 0 0 = 2", "book 0 1 = 2", "book 0 2 = 9", "book 1 0 = 0", "book 1 1 = 0", "book 1 2 = 0");
        Edge.of("Promise 13", "BEYOND.",
            "book 0 0 = BEYOND", "ticks 1", "book 0 0 = 0", "book 1 0 = BEYOND", "book -1 0 = BEYOND",
            "book MIN 0 = BEYOND", "book MAX 0 = BEYOND", "book 0 -1 = BEYOND", "book 0 2 = 0", "book 0 3 = BEYOND",
            "book 0 MIN = BEYOND", "book 0 MAX = BEYOND", "ticks 99", "book 99 0 = 0", "book 100 0 = BEYOND",
            "ticks 100", "book 99 2 = 0", "book 100 2 = BEYOND", "book 101 0 = BEYOND", "book 199 0 = BEYOND",
            "status 0 = 13");
    }

    private static void promise14() {
        Edge.of("Promise 14", "COUNTS of a CLASS (0 to 6).",
            "counts 0 = 0", "counts 6 = 0", "pace 0", "ticks 100", "ticks 30", "counts 0 = 130", "counts 1 = 0",
            "counts 6 = 0", "STANDING", "JUMP 32 = 32", "counts 6 = 1", "counts 0 = 130");
        Edge.of("Promise 14", "BEYOND.",
            "counts -1 = BEYOND", "counts 7 = BEYOND", "counts MIN = BEYOND", "counts MAX = BEYOND", "status 0 = 4");
    }

    private static void promise15() {
        Edge.of("Promise 15", "1 if POWER, else 0.",
            "power = 1", "pace 0", "ticks 1", "power = 1", "STANDING", "JUMP 1", "power = 1", "JUMP 2", "power = 1",
            "JUMP 2", "power = 0", "JUMP 1", "power = 1");
    }

    private static void promise16() {
        Edge.of("Promise 16", "TONE.",
            "STANDING", "JUMP 1", "JUMP 1", "tone = 1", "ticks 5", "tone = 1", "JUMP 2", "tone = 6", "JUMP 3",
            "tone = 1");
        Edge.of("Promise 16", "NONE: there are not two such.",
            "tone = NONE", "pace 0", "ticks 1", "tone = NONE", "STANDING", "JUMP 1", "tone = NONE", "ticks 99",
            "tone = NONE", "ticks 1", "tone = NONE", "JUMP 1", "tone = NONE", "status 3 = 6", "JUMP 1", "tone = 1");
    }

    private static void promise17() {
        Edge.of("Promise 17", "GREAT (what 0), WARNED (1) by m (1 to 400).",
            "great 1 0 = 0", "great 1 1 = 0", "great 400 0 = 0", "great 400 1 = 0", "STANDING", "JUMP 5", "JUMP 5",
            "great 5 0 = 2", "great 5 1 = 1", "great 6 0 = 0", "great 6 1 = 0");
        Edge.of("Promise 17", "by m (1 to 400).",
            withTen("ticks 2", "great 400 0 = 2", "great 400 1 = 1", "great 1 0 = 2", "great 1 1 = 1", "great 401 0 = BEYOND",
                // THE BOOK full of these, and with one more.
                "ticks 98", "great 400 0 = 100", "great 400 1 = 99", "tone = 1", "ticks 1", "great 400 0 = 100",
                "great 400 1 = 99"));
        Edge.of("Promise 17", "BEYOND.",
            "great 0 0 = BEYOND", "great -1 0 = BEYOND", "great 401 0 = BEYOND", "great MIN 0 = BEYOND",
            "great MAX 0 = BEYOND", "great 0 1 = BEYOND", "great 401 1 = BEYOND", "great 1 -1 = BEYOND",
            "great 1 2 = BEYOND", "great 1 MIN = BEYOND", "great 1 MAX = BEYOND", "status 0 = 11");
    }

    private static void promise18() {
        Edge.of("Promise 18", "NOISE of the TICKS of THE BOOK in which a BLOCK moved, together.",
            "block 0 1 0 1", "block 0 999 0 0", "block 0 1 0 1", "noise 0 = 0", "push 2 3", "pace 2",
            // First 2 and 3 STEPS, then 2 in each TICK.
            "ticks 1", "noise 0 = 5", "noise 1 = 0", "noise 2 = 5", "ticks 1", "noise 0 = 7", "noise 2 = 5", "ticks 98",
            "noise 0 = 203", "noise 2 = 5", "ticks 1", "noise 0 = 200", "noise 2 = 0", "noise 1 = 0");
        Edge.of("Promise 18", "in which a BLOCK moved",
            withTen("noise 9 = 0", "ticks 1", "noise 0 = 800", "noise 9 = 800", "ticks 99", "noise 9 = 80000", "ticks 1",
                "noise 9 = 80000", "noise 10 = BEYOND"));
        Edge.of("Promise 18", "BEYOND.",
            "noise 0 = BEYOND", "block 0 1 0 0", "noise -1 = BEYOND", "noise 0 = 0", "noise 1 = BEYOND",
            "noise 9 = BEYOND", "noise 10 = BEYOND", "noise 32 = BEYOND", "noise MIN = BEYOND", "noise MAX = BEYOND",
            "status 0 = 8");
    }
}
