/** The edges of promises 34 to 38. */
final class ImagesEdges {
    private ImagesEdges() {
    }

    static void all() {
        promise34();
        whatIsNotKept();
        promise35();
        promise36();
        promise37();
        promise38();
    }

    private static void promise34() {
        Edge.of("Promise 34", "All that sections 1 and 2 tell (THE TAPE not) is kept: 1.",
            "block 4 20 3 4", "block 3 30 5 6", "oil 0 7", "push 1 -40", "set 1 3 0", "pace 9", "LAW 'b-s'", "ticks 2",
            "image = 1",
            // A TICK with a SIZE, by another LAW; and all of the BLOCKS and THE HAND changed.
            "push 0 -9999", "set 0 1 1", "set 0 2 0", "set 0 3 99", "set 0 4 99", "push 1 77", "set 1 3 1", "oil 1 5",
            "block 5 1 1 1", "pace -77", "ticks 100", "LAW '1'", "ticks 9", "undo = 2", "count 0 = 2", "count 1 = 2",
            "count 2 = 0", "count 3 = 1", "count 5 = 9", "count 6 = 18", "count 7 = 2", "of 0 0 = 4", "of 0 1 = 20",
            "of 0 2 = 3", "of 0 3 = 4", "of 1 0 = 3", "of 1 1 = 30", "of 1 2 = 5", "of 1 3 = 0", "of 1 4 = 0",
            "of 1 5 = -40", "of 1 6 = 2", "of 1 8 = 28", "says 0 = 20", "of 2 0 = BEYOND",
            // By a PULL of 36 it slipped in both TICKS: by 8, (36 - 3) / 4, and by 1.
            "of 0 4 = 5", "of 0 5 = 18", "of 0 6 = 0", "book 0 1 = 1", "book 1 1 = 1", "book 2 0 = BEYOND",
            "counts 0 = 0");
        Edge.of("Promise 34", "is kept: 1.",
            // No BLOCKS and no LAW are kept, too; and 10 BLOCKS behind 100 TICKS.
            "image = 1", "block 3 1 0 0", "ticks 3", "LAW '1'", "pace 5", "undo = 0", "count 0 = 0", "count 1 = 0",
            "count 3 = 0", "count 5 = 1", "count 6 = 0", "count 7 = 0", "plain = 0", "of 0 0 = BEYOND",
            "book 0 0 = BEYOND", "counts 0 = 0", "9* block 0 9 0 0", "block 5 8 7 0", "push 9 6", "2* ticks 100",
            "image = 1", "set 9 1 1", "push 9 1", "ticks 50", "undo = 10", "of 9 0 = 5", "of 9 1 = 8", "of 9 5 = 6",
            "of 9 6 = 200", "count 1 = 200", "count 7 = 100", "counts 0 = 200", "count 6 = 200");
        Edge.of("Promise 34", "is kept: 1.",
            // Behind 130 TICKS THE BOOK and COUNTS are those of the image, and go on from there.
            "block 0 1 0 1", "pace 2", "ticks 100", "ticks 29", "pace 8", "ticks 1", "image = 1", "pace 3", "ticks 50",
            "undo = 1", "count 1 = 130", "count 7 = 100", "book 0 2 = 8", "book 1 2 = 2", "book 99 2 = 2",
            "noise 0 = 206", "counts 1 = 130", "pace 5", "ticks 1", "book 0 2 = 5", "book 1 2 = 8", "book 2 2 = 2",
            "count 7 = 100", "counts 1 = 131",
            // Also where 100 TICKS of another SIZE came in between.
            "NEW", "block 0 1 0 1", "pace 2", "ticks 3", "image = 1", "pace 0", "ticks 100", "undo = 1", "book 0 0 = 1",
            "book 0 1 = 1", "book 0 2 = 2", "book 2 0 = 1", "book 3 0 = BEYOND", "great 1 0 = 3", "great 1 1 = 2",
            "tone = 1", "noise 0 = 6",
            // CHATTERED.
            "NEW", "block 0 1 0 0", "block 0 1 0 1", "push 0 2", "ticks 1", "image = 1", "ticks 4", "count 2 = 5",
            "counts 6 = 5", "undo = 2", "count 2 = 1", "counts 6 = 1", "great 80 0 = 1");
    }

    private static void whatIsNotKept() {
        Edge.of("Promise 34", "(THE TAPE not)",
            "TEXT '12'", "NUMBERS 0 8: 5", "image = 1", "TEXT '3'", "NUMBERS 0 16: 300", "sheet 1 8 1",
            "of 0 0 = BEYOND", "undo = 0", "count 4 = 3", "write 0 0 0 = 300", "write 1 0 0 = 0", "status 0 = 1",
            "wipe", "undo = 0", "count 4 = 0", "wipe = 0");
    }

    private static void promise35() {
        Edge.of("Promise 35", "It becomes what was kept latest (which stays): how many BLOCKS.",
            "block 0 1 0 0", "image", "block 0 2 0 0", "undo = 1", "block 0 3 0 0", "block 0 4 0 0", "undo = 1",
            "count 0 = 1",
            // The latest, not the one ahead of it; and again, though it was undone in between.
            "block 0 5 0 0", "image", "block 0 6 0 0", "undo = 2", "of 1 1 = 5", "undo = 2", "push 1 9", "undo = 2",
            "of 1 5 = 0",
            // What is done behind it doesn't come to what is kept.
            "set 0 1 9", "ticks 5", "undo = 2", "of 0 1 = 1", "count 1 = 0",
            // A new BLOCK is a new one, whatever stood there.
            "block 4 7 6 5 = 2", "oil 2 9", "push 2 9", "ticks 3", "undo = 2", "block 0 8 7 6 = 2", "of 2 0 = 0",
            "of 2 1 = 8", "of 2 2 = 7", "of 2 3 = 6", "of 2 4 = 0", "of 2 5 = 0", "of 2 6 = 0");
        Edge.of("Promise 35", "how many BLOCKS.",
            // BLOCK 0 is the last one again: nothing behind it draws, by no spring.
            "pace 0", "block 1 1 0 1", "image", "block 0 9 0 5", "push 1 9", "of 0 7 = 45", "undo = 1", "of 0 7 = 0",
            "push 0 -6", "of 0 7 = 6", "ticks 1 = 1", "of 0 5 = 0");
        Edge.of("Promise 35", "NONE: nothing is kept.",
            "undo = NONE", "block 0 1 0 0", "ticks 3", "undo = NONE", "count 0 = 1", "count 1 = 3", "image", "undo = 1",
            "tear = 1", "undo = NONE", "status 3 = 3");
    }

    private static void promise36() {
        Edge.of("Promise 36", "Nothing is kept: 1 if something was, else 0.",
            "tear = 0", "image", "tear = 1", "tear = 0", "undo = NONE", "block 0 7 0 0", "image", "image",
            "block 0 8 0 0", "tear = 1", "tear = 0",
            // It stays as it is.
            "count 0 = 2", "of 1 1 = 8", "image", "undo = 2", "tear = 1", "status 3 = 1");
    }

    private static void promise37() {
        Edge.of("Promise 37", "0 BLOCKS, 1 TICKS ever, 2 those that CHATTERED, 3 1 if there is a LAW, else 0, 4 bytes of THE TAPE, 5 PACE,",
            "count 0 = 0", "count 1 = 0", "count 2 = 0", "count 3 = 0", "count 4 = 0", "count 5 = 1", "count 6 = 0",
            "count 7 = 0", "block 3 999 0 1", "block 3 999 0 0", "pace 9", "LAW 'b'", "ticks 12", "TEXT '12345'",
            "count 0 = 2", "count 1 = 12", "count 2 = 0", "count 3 = 1", "count 4 = 5", "count 5 = 9", "count 6 = 108",
            "count 7 = 12", "ticks 87", "count 7 = 99", "ticks 1", "count 7 = 100", "ticks 1", "count 7 = 100",
            "count 1 = 101", "count 6 = 909", "plain", "count 3 = 0");
        Edge.of("Promise 37", "BEYOND: another what.",
            "count -1 = BEYOND", "count 0 = 0", "count 7 = 0", "count 8 = BEYOND", "count MIN = BEYOND",
            "count MAX = BEYOND", "status 0 = 4");
    }

    private static void promise38() {
        Edge.of("Promise 38", "How many acts answered a finding ever (undo() takes none back): which -1: all, 0 to 6: BEYOND to SIZE.",
            "status -1 = 0", "status 0 = 0", "status 6 = 0", "image", "undo", "tear", "undo = NONE", "tone = NONE",
            "read 0 = MISSING", "draws 1 = MISSING", "write 2 0 1 = MISSING", "sheet 0 8 -1 = SIZE",
            "10* block 0 1 0 0", "block 0 1 0 0 = FULL", "as 0 1 = KIND", "as 0 2 = KIND", "as 0 3 = KIND",
            "as 0 4 = KIND", "pace 100 = BEYOND", "noise 10 = BEYOND", "write 4 0 1 = BEYOND",
            // A FAULT is none.
            "law = -1", "status 0 = 3", "status 1 = 1", "status 2 = 4", "status 3 = 2", "status 4 = 0", "status 5 = 3",
            "status 6 = 1", "status -1 = 14", "image", "pace 100 = BEYOND", "undo = 10", "status 0 = 4",
            "status -1 = 15");
        Edge.of("Promise 38", "BEYOND (counted from then on): another one.",
            "status 7 = BEYOND", "status 0 = 1", "status -2 = BEYOND", "status 0 = 2", "status MIN = BEYOND",
            "status MAX = BEYOND", "status -1 = 4", "status 0 = 4", "status 1 = 0", "status 6 = 0");
    }
}
