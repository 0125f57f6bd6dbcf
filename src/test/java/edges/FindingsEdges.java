/** The edges of the Terms' head: the findings, and that what answers one changes nothing but status(). */
final class FindingsEdges {
    private static final String CHANGES_NOTHING = "one that answers a finding changes nothing but status().";

    /** Nothing yet. */
    private static final String[] NEW = {};

    /** A LAW, a TEXT with a FAULT on THE TAPE, one BLOCK, one TICK, an image without any. */
    private static final String[] SMALL = {
        "image", "block 3 9 4 1", "oil 0 3", "pace 4", "LAW 's+b'", "TEXT 'b+'", "sheet 1 16 0", "ticks 1",
        "NUMBERS 2 64: 7 8",
    };

    /** All that can be full is: 10 BLOCKS of all KINDS, THE TAPE, THE BOOK, a sheet; an image of other things. */
    private static final String[] LARGE = {
        "pace 3", "block 0 5 2 1", "block 3 9 4 2", "block 2 30 7 0", "block 1 20 3 1", "block 4 12 6 2",
        "block 5 40 9 1", "block 0 1 0 0", "block 0 1 0 1", "block 3 50 5 3", "block 1 999 999 99", "oil 2 7",
        "oil 5 20", "push 6 2", "LAW 's+b/2'", "ticks 100", "ticks 7", "image", "push 4 30", "pace -5", "ticks 4",
        "TEXT '" + "b+".repeat(29) + "12'", "sheet 0 8 40", "write 0 0 5", "write 0 39 -3", "NUMBERS 1 16: 1 -2 300", "sheet 2 64 0",
    };

    private FindingsEdges() {
    }

    static void all() {
        calls();
        findings();
        order();
        refusedByANewOne();
        refusedByASmallOne();
        refusedByALargeOne();
        aheadChangesNothing();
    }

    private static void calls() {
        // The 512th call is the last that is promised.
        Edge.of("What it is", "An object is used for at most 512 calls after it has been made;",
            "511* ticks 100", "count 1 = 51100", "NEW", "pace 99", "510* ticks 100", "count 6 = 5049000", "NEW",
            "pace -99", "510* ticks 100", "count 6 = -5049000", "NEW", "511* pace 100", "status 0 = 511", "NEW",
            "511* draws 0 = MISSING", "status -1 = 511");
    }

    private static void findings() {
        Edge.of("Terms", "FINDINGS are answers below -1000000000:",
            "block 6 1 0 0 = -1000000001", "10* block 0 1 0 0", "block 0 1 0 0 = -1000000002", "as 0 1 = -1000000003",
            "tone = -1000000004", "read 0 = -1000000006", "sheet 0 8 -1 = -1000000007", "status 0 = 1", "status 1 = 1",
            "status 2 = 1", "status 3 = 1", "status 5 = 1", "status 6 = 1", "status -1 = 6",
            // No promise answers STATE.
            "status 4 = 0");
        Edge.of("Terms", "(in longs, too).",
            "noise 0 = -1000000001", "write 4 0 0 = -1000000001", "write 0 0 0 = -1000000006", "sheet 0 64 1",
            "write 0 1 0 = -1000000001", "status 0 = 3", "status 5 = 1");
    }

    private static void order() {
        Edge.of("Terms", "Each act tells its findings in the order in which they are asked;",
            // block: BEYOND, FULL. as: BEYOND, KIND. from, still: BEYOND, NONE.
            "10* block 0 1 0 0", "block 0 1 0 100 = BEYOND", "block 0 1 0 99 = FULL", "as 0 6 = BEYOND",
            "as 10 1 = BEYOND", "as 0 1 = KIND", "from 61 = BEYOND", "from 60 = NONE", "NEW", "block 0 1 0 1",
            "push 0 5", "still 0 61 0 = BEYOND", "still 0 1 -1 = BEYOND", "still 1 1 0 = BEYOND", "still 0 1 0 = NONE",
            // which: BEYOND, MISSING, SIZE. says: BEYOND, NONE. feed: BEYOND, FULL.
            "which 1 0 = BEYOND", "which 0 4 = BEYOND", "which 0 0 = MISSING", "sheet 0 8 0", "which 1 0 = BEYOND",
            "which 0 0 = SIZE", "says 1 = BEYOND", "says 0 = NONE", "15* feed 0 4", "feed 0 5 = BEYOND",
            "feed 0 0 = BEYOND", "feed 0 4 = FULL");
        Edge.of("Terms", "Each act tells its findings in the order in which they are asked;",
            // sheet: BEYOND, SIZE. write: BEYOND, MISSING, BEYOND. copy: BEYOND, MISSING, KIND, BEYOND.
            // draws, read: BEYOND, MISSING.
            "sheet 4 8 -1 = BEYOND", "sheet 0 7 -1 = BEYOND", "sheet 0 8 -1 = SIZE", "write 4 -1 0 = BEYOND",
            "write 0 -1 0 = MISSING", "sheet 0 8 1", "write 0 -1 0 = BEYOND", "copy 4 -1 1 0 1 = BEYOND",
            "copy 0 -1 4 0 1 = BEYOND", "copy 0 -1 1 0 1 = MISSING", "sheet 1 16 1", "copy 0 -1 1 0 1 = KIND",
            "sheet 1 8 1", "copy 0 -1 1 0 1 = BEYOND", "draws 4 = BEYOND", "draws 3 = MISSING", "read 4 = BEYOND",
            "read 3 = MISSING");
    }

    private static void refusedByANewOne() {
        refused(NEW, "BEYOND",
            "block -1 1 0 0", "block 6 1 0 0", "block 0 0 0 0", "block 0 1000 0 0", "block 0 1 -1 0",
            "block 0 1 1000 0", "block 0 1 0 -1", "block 0 1 0 100", "of 0 0", "set 0 1 1", "as 0 0", "holds 0 0",
            "rubs 0 0", "push 0 1", "oil 0 1", "pace 100", "pace -100", "ticks 0", "ticks 101", "until 0 1",
            "until 401 1", "until 1 0", "until 1 101", "book 0 0", "counts -1", "counts 7", "great 0 0", "great 401 0",
            "great 1 -1", "great 1 2", "noise 0", "ahead 0 0", "ahead 61 0", "ahead 1 -1", "ahead 1 4", "from 0",
            "from 61", "still 0 1 0", "which 0 0", "together 0 1 1", "feed 49 0", "feed 49 5", "says 0", "sheet -1 8 1",
            "sheet 4 8 1", "sheet 0 7 1", "sheet 0 8 41", "sheet 0 0 41", "write -1 0 1", "write 4 0 1",
            "copy -1 0 0 0 1", "copy 0 0 4 0 1", "draws -1", "draws 4", "read -1", "read 4", "count -1", "count 8",
            "status -2", "status 7");
        refused(NEW, "NONE", "tone", "from 1", "from 60", "undo");
        refused(NEW, "MISSING", "write 0 0 1", "write 3 0 1", "copy 0 0 1 0 0", "draws 0", "draws 3", "read 0",
        "read 3");
        refused(NEW, "SIZE", "sheet 0 8 -1", "sheet 3 0 -1");
    }

    private static void refusedByASmallOne() {
        refused(SMALL, "BEYOND",
            "of -1 0", "of 1 0", "of 0 -1", "of 0 9", "set 1 1 1", "set 0 0 1", "set 0 5 1", "set 0 1 0",
            "set 0 1 1000", "set 0 2 -1", "set 0 2 1000", "set 0 3 -1", "set 0 3 100", "set 0 4 -1", "set 0 4 100",
            "as 1 0", "as 0 6", "holds 0 -1", "holds 0 1000", "rubs 0 -1", "rubs 0 1000", "push 1 1", "push 0 10000",
            "push 0 -10000", "oil 1 1", "oil 0 0", "oil 0 100", "book 1 0", "book 0 3", "noise 1", "ahead 1 5",
            "still 1 1 0", "still 0 0 0", "still 0 61 0", "still 0 1 -1", "still 0 1 401", "which 1 2", "which 0 4",
            "together 0 0 1", "together 0 1 1", "together 1 0 1", "says 1", "write 1 0 1", "write 2 2 1",
            "copy 2 0 2 1 2", "copy 2 0 2 0 -1", "copy 1 0 1 0 1");
        refused(SMALL, "NONE", "tone", "still 0 60 0");
        refused(SMALL, "KIND", "as 0 1", "as 0 5", "copy 1 0 2 0 0", "copy 2 0 1 0 0");
        refused(SMALL, "MISSING", "which 0 0", "which 0 3", "write 0 0 1", "copy 2 0 0 0 1", "copy 0 0 2 0 1",
        "draws 3", "read 0");
        refused(SMALL, "SIZE", "which 0 1", "sheet 2 64 -1", "sheet 2 0 -1");
    }

    private static void refusedByALargeOne() {
        Door large = Edge.behind(LARGE);
        Check.due("BLOCKS of the large one", large.ask("count", 0), 10);
        Check.due("THE TAPE of the large one", large.ask("count", 4), 60);
        Check.due("THE BOOK of the large one", large.ask("count", 7), 100);
        refused(LARGE, "FULL", "block 0 1 0 0", "block 5 999 999 99", "feed 49 1", "feed 49 4");
        refused(LARGE, "BEYOND",
            "block 6 1 0 0", "of 10 0", "set 10 4 1", "as 10 0", "holds 10 0", "rubs 10 0", "push 10 1", "push 9 10000",
            "oil 10 1", "oil 9 0", "pace 100", "ticks 0", "ticks 101", "until 401 100", "until 1 101", "book 100 0",
            "book -1 0", "noise 10", "ahead 1 14", "ahead 61 0", "from 0", "still 10 1 0", "still 9 61 0", "which 10 1",
            "together 9 10 1", "together 9 9 1", "feed 49 0", "says 10", "sheet 0 7 1", "sheet 0 8 41", "sheet 0 0 41",
            "write 0 40 1", "write 0 -1 1", "copy 0 1 0 0 40", "copy 0 0 0 39 2", "draws 4", "read 4", "count 8",
            "status 7");
        refused(LARGE, "KIND", "as 0 1", "as 9 4", "as 5 1", "copy 0 0 1 0 1", "copy 1 0 2 0 0");
        refused(LARGE, "NONE", "still 0 60 0");
        refused(LARGE, "MISSING", "which 0 3", "write 3 0 1", "copy 0 0 3 0 1", "draws 3", "read 3");
        refused(LARGE, "SIZE", "which 9 2", "sheet 0 8 -1", "sheet 0 0 -1");
    }

    private static void aheadChangesNothing() {
        Document.ask("Promise 26", "(THE TAPE, THE LAW stay; no finding)");
        Check.due("law with a FAULT", Edge.call(Edge.behind(SMALL), "law"), -3);
        changesNothing(NEW, "law", 0);
        changesNothing(SMALL, "law", 0);
        Document.ask("Terms 3", "nothing changes.");
        changesNothing(LARGE, "ahead 60 0", 0);
        changesNothing(LARGE, "ahead 60 3", 0);
        changesNothing(LARGE, "from 60", 0);
        changesNothing(LARGE, "still 0 60 400", 0);
        changesNothing(LARGE, "which 0 1", 0);
        changesNothing(LARGE, "together 7 6 60", 0);
        changesNothing(SMALL, "ahead 60 4", 0);
        changesNothing(SMALL, "from 60", 0);
        changesNothing(SMALL, "still 0 60 400", 0);
        changesNothing(SMALL, "which 0 2", 0);
    }

    private static void refused(String[] setting, String finding, String... calls) {
        Document.ask("Terms", CHANGES_NOTHING);
        for (String call : calls) {
            long due = Edge.number(finding);
            Check.due(call + " behind " + setting.length + " rows", Edge.call(Edge.behind(setting), call), due);
            changesNothing(setting, call, due);
        }
    }

    /**
     * Two objects come to the same; the call is asked of one of them alone, and all that shows is laid side by side.
     * The finding (0, if it is none) is the only thing that may show.
     */
    private static void changesNothing(String[] setting, String call, long finding) {
        Door asked = Edge.behind(setting);
        Door other = Edge.behind(setting);
        Edge.call(asked, call);
        for (int which = -1; which <= 6; which++) {
            boolean counted = finding != 0 && (which == -1 || Check.BEYOND - finding == which);
            long was = other.ask("status", which);
            Check.due("status " + which + " behind " + call, asked.ask("status", which), was + (counted ? 1 : 0));
        }
        for (String row : Shown.ROWS) {
            Check.due(row + " behind " + call, Edge.call(asked, row), Edge.call(other, row));
        }
    }
}
