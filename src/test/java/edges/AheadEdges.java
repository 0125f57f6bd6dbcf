/** The edges of the Terms' section 3 and of promises 19 to 23. */
final class AheadEdges {
    private AheadEdges() {
    }

    static void all() {
        ahead();
        even();
        from();
        tone();
        great();
        which();
        still();
        power();
        promise19();
        promise20();
        promise21();
        promise22();
        promise23();
    }

    private static void ahead() {
        Edge.of("Terms 3", "AHEAD n (1 to 60) TICKS are gone on with on a copy; nothing changes.",
            "block 0 5 2 1", "oil 0 9", "pace 3", "ahead 0 0 = BEYOND", "ahead 1 0 = 0", "ahead 2 0 = 1",
            "ahead 60 0 = 30", "ahead 61 0 = BEYOND", "from 60 = 6", "still 0 60 1 = NONE", "together 0 0 1 = BEYOND",
            "count 1 = 0", "count 2 = 0", "count 5 = 3", "count 6 = 0", "count 7 = 0", "counts 0 = 0", "of 0 4 = 9",
            "of 0 5 = 0", "of 0 6 = 0", "book 0 0 = BEYOND",
            // What was told ahead comes.
            "ticks 60 = 2", "great 1 0 = 30", "counts 2 = 30");
        Edge.of("Terms 3", "TICKS are gone on with on a copy;",
            // STOOD grows on the copy: from STOOD 4 on it holds against 6, so that the 7th TICK is the first to jump.
            "block 0 5 0 1", "ahead 6 0 = 0", "ahead 7 0 = 1", "ahead 7 4 = 7", "of 0 6 = 0", "NEW",
            // DROPS wear off on it: OILED holds by 3, then by 4 (4 against 4, then 8), then by 5 (4, then 8).
            "block 2 10 0 1", "oil 0 2", "pace 4", "ahead 1 0 = 1", "ahead 2 0 = 1", "ahead 3 0 = 2", "ahead 4 0 = 2",
            "ahead 5 0 = 3", "ahead 5 4 = 20", "of 0 4 = 2");
    }

    private static void even() {
        Edge.of("Terms 3", "EVEN: each of them has a SIZE above 0.",
            "ahead 1 1 = 0", "block 0 5 0 1", "pace 6", "ahead 1 1 = 1", "ahead 60 1 = 1",
            // The first one, or the last one, has not.
            "push 0 1", "ahead 1 1 = 0", "ahead 60 1 = 0", "ahead 60 0 = 59", "pace 0", "push 0 -7", "ahead 1 1 = 1",
            "ahead 2 1 = 0");
        Edge.of("Terms 3", "JUMPS: how many have.",
            "ahead 60 0 = 0", "block 0 5 0 1", "pace 6", "ahead 1 0 = 1", "ahead 60 0 = 60", "pace 0", "ahead 60 0 = 0",
            "push 0 -6", "ahead 1 0 = 1", "ahead 60 0 = 1", "pace 3", "push 0 6", "ahead 1 0 = 0", "ahead 60 0 = 30");
    }

    private static void from() {
        Edge.of("Terms 3", "FROM: the least PACE (0 to 99) with which AHEAD n TICKS are EVEN.",
            "block 0 5 0 1", "from 1 = 6", "from 60 = 6", "pace -99", "from 1 = 6", "count 5 = -99",
            // Drawn by 6 already: by PACE 0 it slips once.
            "push 0 -6", "from 1 = 0", "from 2 = 6", "push 0 1", "from 1 = 1", "push 0 5", "set 0 1 98", "from 1 = 99",
            "from 60 = 99", "set 0 1 99", "from 1 = NONE", "push 0 -1", "from 1 = 99", "from 2 = NONE", "set 0 1 999",
            "from 1 = NONE",
            // THE LAW is asked by the PACE tried: by 4 it holds 5 against 4, by 5 it holds 4 against 5.
            "NEW", "block 3 5 0 1", "LAW '9-p'", "from 1 = 5", "from 60 = 5", "count 5 = 1");
    }

    private static void tone() {
        Edge.of("Terms 3", "TONE: how many TICKS lie between the latest two of THE BOOK with a SIZE above 0 (from one to the other).",
            "STANDING", "JUMP 1", "ticks 3", "JUMP 9", "tone = 4", "ticks 95", "tone = 4", "ticks 1", "tone = NONE",
            // 100 TICKS, the first and the last of which jump; then one more.
            "NEW", "STANDING", "JUMP 1", "ticks 98", "JUMP 1", "count 7 = 100", "tone = 99", "ticks 1", "tone = NONE");
    }

    private static void great() {
        Edge.of("Terms 3", "GREAT: how many TICKS of THE BOOK have a SIZE of m or more.",
            "great 1 0 = 0", "STANDING", "great 1 0 = 0", "JUMP 5", "great 4 0 = 1", "great 5 0 = 1", "great 6 0 = 0",
            "ticks 99", "great 5 0 = 1", "ticks 1", "great 5 0 = 0", "great 1 0 = 0");
        Edge.of("Terms 3", "WARNED: of these with a TICK ahead of it in THE BOOK, how many have one there with a SIZE above 0.",
            // Of 5, 5, 0, 5, 1, 5 the first has none ahead of it, the third of these has a 0.
            "STANDING", "JUMP 5", "great 5 1 = 0", "JUMP 5", "great 5 1 = 1", "JUMP 0", "JUMP 5", "great 5 1 = 1",
            "JUMP 1", "great 5 1 = 1", "JUMP 5", "great 5 1 = 2", "great 5 0 = 4", "great 1 1 = 3", "great 1 0 = 5",
            "great 6 1 = 0",
            // What THE BOOK keeps no more is ahead of none.
            "NEW", "STANDING", "JUMP 1", "JUMP 1", "ticks 98", "great 1 0 = 2", "great 1 1 = 1", "ticks 1",
            "great 1 0 = 1", "great 1 1 = 0", "ticks 1", "great 1 0 = 0", "great 1 1 = 0");
    }

    private static void which() {
        Edge.of("Terms 3", "WHICH: a row of SIZES of TICKS AHEAD: KINDS as one of which a BLOCK (all else as it is) would give just these,",
            // By HOLD 10 a PULL of 7 holds; OILED and GREASED, by 5, slip by 6 and are held by RUBS 7.
            "pace 0", "block 0 10 2 1", "push 0 -7", "NUMBERS 0 64: 0", "which 0 0 = 27", "NUMBERS 0 64: 1",
            "which 0 0 = 36", "NUMBERS 0 64: 2", "which 0 0 = 0", "NUMBERS 0 64: -1", "which 0 0 = 0",
            "NUMBERS 0 64: 4294967297", "which 0 0 = 0", "NUMBERS 0 64: 4294967296", "which 0 0 = 0",
            "NUMBERS 0 64: 1 0", "which 0 0 = 36", "NUMBERS 0 64: 1 1", "which 0 0 = 0", "NUMBERS 0 16: 0 0",
            "which 0 0 = 27",
            // LAWED by a LAW.
            "LAW '6'", "NUMBERS 0 8: 0", "which 0 0 = 19", "plain",
            // PULL 4 by 1 DROP: GREASED holds by 3, OILED by 4.
            "set 0 4 1", "push 0 3", "which 0 0 = 31", "NUMBERS 0 8: 1", "which 0 0 = 32", "of 0 0 = 0", "of 0 5 = -4",
            "count 1 = 0");
        Edge.of("Terms 3", "KINDS as one of which a BLOCK (all else as it is) would give just these, as a set.",
            // Stood for 40: by PULL 99 only SEIZED, by 165, holds. Stood for 39: none does.
            "pace 0", "block 0 5 99 1", "ticks 40", "pace 99", "NUMBERS 0 8: 0", "which 0 0 = 16", "NEW", "pace 0",
            "block 0 5 99 1", "ticks 39", "pace 99", "NUMBERS 0 8: 0", "which 0 0 = 0");
        Edge.of("Terms 3", "as a set.",
            // In none of 40 TICKS, or in each, a step for all KINDS alike; the 40th number tells.
            "block 0 5 0 1", "pace 6",
            "NUMBERS 0 8:" + " 1".repeat(40), "which 0 0 = 63", "write 0 39 0", "which 0 0 = 0",
            "NUMBERS 1 16:" + " 0".repeat(40), "which 0 1 = 0", "pace 0", "which 0 1 = 63", "write 1 39 1", "which 0 1 = 0");
    }

    private static void still() {
        Edge.of("Terms 3", "STILL: the least DROPS (0 to 99) of a BLOCK with which AHEAD n TICKS all have a SIZE of m at most.",
            "pace 0", "block 3 9 0 1", "push 0 -30", "LAW 'd'", "still 0 1 0 = 30", "still 0 60 0 = 30",
            "still 0 60 1 = 0", "push 0 -69", "still 0 1 0 = 99", "push 0 -1", "still 0 1 0 = NONE", "still 0 1 1 = 0",
            // Not more DROPS than it has, but so many instead.
            "push 0 70", "oil 0 50", "still 0 1 0 = 30", "of 0 4 = 50",
            // All of the TICKS: drawn by 4, 8, 12.
            "push 0 30", "pace 4", "LAW '10'", "still 0 2 0 = 0", "still 0 3 0 = NONE");
        Edge.of("Terms 3", "all have a SIZE of m at most.",
            "block 0 1 0 0", "block 0 1 0 1", "push 0 2", "still 0 1 80 = 0", "still 1 60 80 = 0",
            "still 0 1 79 = NONE", "still 0 1 400 = 0");
    }

    private static void power() {
        Edge.of("Terms 3", "POWER: whether COUNTS of CLASSES 1 to 6 never rise: each no more than that of the one ahead.",
            "STANDING", "power = 1", "JUMP 1", "power = 1", "JUMP 2", "power = 1", "JUMP 4", "power = 1", "JUMP 8",
            "power = 1", "JUMP 16", "power = 1", "JUMP 32", "power = 1", "JUMP 32", "power = 0", "JUMP 16", "power = 0",
            "JUMP 8", "power = 0", "JUMP 4", "power = 0", "JUMP 2", "power = 0", "JUMP 1", "power = 1", "JUMP 1",
            "power = 1");
        Edge.of("Terms 3", "each no more than that of the one ahead.",
            "STANDING", "JUMP 2", "power = 0", "NEW", "STANDING", "JUMP 1", "JUMP 4", "power = 0", "NEW", "STANDING",
            "JUMP 1", "JUMP 2", "JUMP 8", "power = 0", "NEW", "STANDING", "JUMP 1", "JUMP 2", "JUMP 4", "JUMP 16",
            "power = 0", "NEW", "STANDING", "JUMP 1", "JUMP 2", "JUMP 4", "JUMP 8", "JUMP 32", "power = 0", "JUMP 16",
            "power = 1");
    }

    private static void promise19() {
        Edge.of("Promise 19", "AHEAD n TICKS: what 0 JUMPS, 1 1 if EVEN, else 0, 2 the greatest SIZE, 3 all NOISE, 4 + k PLACE of BLOCK k",
            // It slips in each second TICK, by 4 and 2.
            "block 0 5 2 1", "pace 3", "ahead 5 0 = 2", "ahead 5 1 = 0", "ahead 5 2 = 2", "ahead 5 3 = 12",
            "ahead 5 4 = 12", "ahead 1 0 = 0", "ahead 1 1 = 0", "ahead 1 2 = 0", "ahead 1 3 = 0", "ahead 1 4 = 0",
            "ahead 60 0 = 30", "ahead 60 2 = 2", "ahead 60 3 = 180", "ahead 60 4 = 180",
            // The greatest SIZE is of the first TICK: 999, 999 and 5.
            "push 0 -2000", "ahead 9 2 = 3");
        Edge.of("Promise 19", "BEYOND.",
            "ahead 1 3 = 0", "ahead 1 4 = BEYOND", "ahead 0 0 = BEYOND", "ahead -1 0 = BEYOND", "ahead 61 0 = BEYOND",
            "ahead MIN 0 = BEYOND", "ahead MAX 0 = BEYOND", "ahead 1 -1 = BEYOND", "ahead 1 MIN = BEYOND",
            "ahead 1 MAX = BEYOND", "ahead 60 0 = 0", "block 0 999 0 0", "push 0 7", "ahead 1 4 = 7",
            "ahead 1 5 = BEYOND", "9* block 0 999 0 0", "push 9 8", "ahead 60 13 = 8", "ahead 60 14 = BEYOND",
            "status 0 = 11");
    }

    private static void promise20() {
        Edge.of("Promise 20", "FROM.",
            "block 0 1 0 1", "from 1 = 2", "from 60 = 2", "set 0 3 99", "from 1 = 1", "push 0 1", "from 1 = 0");
        Edge.of("Promise 20", "BEYOND: n.",
            "from 0 = BEYOND", "from -1 = BEYOND", "from 61 = BEYOND", "from MIN = BEYOND", "from MAX = BEYOND",
            // Asked ahead of NONE, which 1 and 60 answer here.
            "from 1 = NONE", "from 60 = NONE", "status 0 = 5", "status 3 = 2");
        Edge.of("Promise 20", "NONE.",
            "from 1 = NONE", "block 0 99 0 1", "from 1 = NONE", "set 0 1 98", "from 1 = 99", "set 0 3 0",
            "from 1 = NONE", "status 3 = 3");
    }

    private static void promise21() {
        Edge.of("Promise 21", "STILL of a BLOCK by n TICKS, m (0 to 400).",
            // BLOCK 1 is LAWED: by its DROPS it holds against 8.
            "pace 0", "block 0 999 0 0", "block 3 9 0 1", "push 1 -8", "LAW 'd'", "still 1 1 0 = 8", "still 1 60 0 = 8",
            "still 1 60 400 = 0", "still 0 1 0 = NONE", "still 0 1 1 = 0", "still 0 1 400 = 0");
        Edge.of("Promise 21", "BEYOND.",
            "still 0 1 0 = BEYOND", "block 0 9 0 0", "still -1 1 0 = BEYOND", "still 1 1 0 = BEYOND",
            "still MIN 1 0 = BEYOND", "still MAX 1 0 = BEYOND", "still 0 0 0 = BEYOND", "still 0 -1 0 = BEYOND",
            "still 0 61 0 = BEYOND", "still 0 MIN 0 = BEYOND", "still 0 MAX 0 = BEYOND", "still 0 1 -1 = BEYOND",
            "still 0 1 401 = BEYOND", "still 0 1 MIN = BEYOND", "still 0 1 MAX = BEYOND", "status 0 = 14",
            "still 0 1 0 = 0", "still 0 60 400 = 0");
        Edge.of("Promise 21", "NONE.",
            "pace 99", "block 0 1 0 1", "still 0 1 0 = NONE", "still 0 1 1 = 0",
            // BEYOND is asked ahead of it.
            "still 0 61 0 = BEYOND", "still 0 0 0 = BEYOND", "still 1 1 0 = BEYOND", "still 0 1 -1 = BEYOND",
            "status 3 = 1", "status 0 = 4");
    }

    private static void promise22() {
        Edge.of("Promise 22", "WHICH of a BLOCK by the numbers of a sheet.",
            // BLOCK 1 draws against 7 as in "WHICH", BLOCK 0 never moves.
            "pace 0", "block 0 999 2 0", "block 0 10 2 1", "push 1 -7", "NUMBERS 3 16: 0", "which 1 3 = 27",
            "NUMBERS 3 16: 1", "which 1 3 = 36", "which 0 3 = 0", "sheet 3 8 40", "which 0 3 = 63");
        Edge.of("Promise 22", "BEYOND: block, sheet.",
            "sheet 0 8 1", "which 0 0 = BEYOND", "block 0 9 0 0", "which 0 0 = 63", "which -1 0 = BEYOND",
            "which 1 0 = BEYOND", "which MIN 0 = BEYOND", "which MAX 0 = BEYOND", "which 0 -1 = BEYOND",
            "which 0 4 = BEYOND", "which 0 MIN = BEYOND", "which 0 MAX = BEYOND",
            // Asked ahead of MISSING and of SIZE.
            "which 1 1 = BEYOND", "sheet 2 8 0", "which 1 2 = BEYOND", "status 0 = 11", "status 5 = 0", "status 6 = 0");
        Edge.of("Promise 22", "MISSING.",
            "block 0 9 0 0", "which 0 0 = MISSING", "which 0 3 = MISSING", "sheet 3 8 1", "which 0 3 = 63",
            "sheet 3 0 1", "which 0 3 = MISSING", "status 5 = 3");
        Edge.of("Promise 22", "SIZE: it has none.",
            "block 0 9 0 0", "sheet 0 8 0", "which 0 0 = SIZE", "sheet 1 16 0", "which 0 1 = SIZE", "sheet 2 64 0",
            "which 0 2 = SIZE", "sheet 2 64 1", "which 0 2 = 63", "status 6 = 3");
    }

    private static void promise23() {
        Edge.of("Promise 23", "Whether AHEAD n TICKS BLOCKS a and b ever move in one TICK: how many such there are.",
            // 1 and 2 change places in each TICK, 0 moves in each second one, 3 never.
            "block 0 5 0 1", "block 0 3 0 0", "block 0 1 0 1", "block 0 5 0 0", "push 2 4", "pace 3",
            "together 1 2 1 = 1", "together 1 2 60 = 60", "together 2 1 60 = 60", "together 0 1 1 = 0",
            "together 0 1 2 = 1", "together 0 2 60 = 30", "together 0 3 60 = 0", "together 3 2 60 = 0", "pace 0",
            "together 0 1 60 = 0");
        Edge.of("Promise 23", "BEYOND (also one and the same).",
            "together 0 1 1 = BEYOND", "block 0 1 0 0", "together 0 1 1 = BEYOND", "block 0 1 0 0",
            "together 0 1 1 = 0", "together 0 0 1 = BEYOND", "together 1 1 1 = BEYOND", "together -1 1 1 = BEYOND",
            "together 2 1 1 = BEYOND", "together MIN 1 1 = BEYOND", "together MAX 1 1 = BEYOND",
            "together 1 -1 1 = BEYOND", "together 1 2 1 = BEYOND", "together 1 MIN 1 = BEYOND",
            "together 1 MAX 1 = BEYOND", "together 2 2 1 = BEYOND", "together 0 1 0 = BEYOND",
            "together 0 1 -1 = BEYOND", "together 0 1 61 = BEYOND", "together 0 1 MIN = BEYOND",
            "together 0 1 MAX = BEYOND", "together 0 1 60 = 0", "status 0 = 18");
    }
}
