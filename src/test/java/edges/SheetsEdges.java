/** The edges of the Terms' section 4 and of promises 29 to 33. */
final class SheetsEdges {
    private SheetsEdges() {
    }

    static void all() {
        sheets();
        promise29();
        promise30();
        promise31();
        copyOnItself();
        promise32();
        promise33();
    }

    private static void sheets() {
        Edge.of("Terms 4", "SHEETS 0 to 3 are rows of at most 40 numbers of 8, 16 or 64 bits, or MISSING (at first).",
            "read -1 = BEYOND", "read 0 = MISSING", "read 1 = MISSING", "read 2 = MISSING", "read 3 = MISSING",
            "read 4 = BEYOND",
            // One as short, one as long as can be; each has its own numbers.
            "sheet 0 8 0 = 0", "sheet 1 16 40 = 40", "sheet 3 64 1 = 1", "sheet 3 64 41 = BEYOND",
            "write 0 0 5 = BEYOND", "write 1 0 5 = 0", "write 1 39 6 = 0", "write 1 40 5 = BEYOND",
            "write 2 0 5 = MISSING", "write 3 0 7 = 0", "write 3 1 7 = BEYOND", "write 1 0 0 = 5", "write 1 39 0 = 6",
            "write 3 0 0 = 7");
        Edge.of("Terms 4", "numbers of 8, 16 or 64 bits",
            "sheet 0 7 1 = BEYOND", "sheet 0 8 1 = 1", "sheet 0 9 1 = BEYOND", "sheet 0 15 1 = BEYOND",
            "sheet 0 16 1 = 1", "sheet 0 17 1 = BEYOND", "sheet 0 32 1 = BEYOND", "sheet 0 63 1 = BEYOND",
            "sheet 0 64 1 = 1", "sheet 0 65 1 = BEYOND");
    }

    private static void promise29() {
        Edge.of("Promise 29", "A sheet has n numbers, all 0, of 8, 16 or 64 bits; bits 0: it is MISSING: n (0 if it is MISSING).",
            "sheet 0 8 40 = 40", "write 0 0 1 = 0", "write 0 39 1 = 0", "write 0 0 2 = 1", "sheet 0 8 40 = 40",
            "write 0 0 3 = 0", "write 0 39 3 = 0", "sheet 0 16 2 = 2", "write 0 1 9 = 0", "write 0 2 9 = BEYOND",
            "sheet 0 64 3 = 3", "write 0 1 9 = 0", "sheet 0 64 0 = 0", "read 0 = 0", "write 0 0 1 = BEYOND",
            "sheet 0 0 40 = 0", "read 0 = MISSING", "sheet 0 0 0 = 0", "read 0 = MISSING", "sheet 0 8 40 = 40",
            "write 0 1 1 = 0", "sheet 3 64 40 = 40", "write 3 39 1 = 0", "write 3 40 1 = BEYOND");
        Edge.of("Promise 29", "BEYOND: no such sheet, other bits.",
            "sheet -1 8 1 = BEYOND", "sheet 4 8 1 = BEYOND", "sheet MIN 8 1 = BEYOND", "sheet MAX 8 1 = BEYOND",
            "sheet 3 -1 1 = BEYOND", "sheet 3 1 1 = BEYOND", "sheet 3 7 1 = BEYOND", "sheet 3 9 1 = BEYOND",
            "sheet 3 15 1 = BEYOND", "sheet 3 17 1 = BEYOND", "sheet 3 32 1 = BEYOND", "sheet 3 63 1 = BEYOND",
            "sheet 3 65 1 = BEYOND", "sheet 3 -8 1 = BEYOND", "sheet 3 MIN 1 = BEYOND", "sheet 3 MAX 1 = BEYOND",
            // Asked ahead of SIZE.
            "sheet -1 8 -1 = BEYOND", "sheet 4 0 -1 = BEYOND", "sheet 3 7 -1 = BEYOND", "sheet 3 32 MIN = BEYOND",
            "status 0 = 20", "status 6 = 0", "read 3 = MISSING");
        Edge.of("Promise 29", "SIZE: n is below 0 (also with bits 0).",
            "sheet 0 64 2 = 2", "sheet 0 8 -1 = SIZE", "sheet 0 0 -1 = SIZE", "sheet 0 16 MIN = SIZE",
            "sheet 0 0 MIN = SIZE", "write 0 1 0 = 0", "write 0 2 0 = BEYOND", "status 6 = 4", "sheet 0 8 0 = 0");
        Edge.of("Promise 29", "BEYOND: n is above 40 (also with bits 0).",
            "sheet 0 64 2 = 2", "sheet 0 8 41 = BEYOND", "sheet 0 0 41 = BEYOND", "sheet 0 16 MAX = BEYOND",
            "sheet 0 0 MAX = BEYOND", "write 0 1 0 = 0", "write 0 2 0 = BEYOND", "status 0 = 5", "sheet 0 8 40 = 40",
            "sheet 0 0 40 = 0");
    }

    private static void promise30() {
        Edge.of("Promise 30", "Number i of a sheet becomes v (its lowest bits): what it was.",
            // By 8 bits, with a sign.
            "sheet 0 8 2", "write 0 1 127 = 0", "write 0 1 128 = 127", "write 0 1 -128 = -128", "write 0 1 -129 = -128",
            "write 0 1 255 = 127", "write 0 1 256 = -1", "write 0 1 257 = 0", "write 0 1 LONGMIN = 1",
            "write 0 1 LONGMAX = 0", "write 0 1 0 = -1", "write 0 0 0 = 0");
        Edge.of("Promise 30", "becomes v (its lowest bits)",
            // By 16 bits, with a sign; by 64 all are kept.
            "sheet 0 16 40", "write 0 39 32767 = 0", "write 0 39 32768 = 32767", "write 0 39 -32768 = -32768",
            "write 0 39 -32769 = -32768", "write 0 39 65535 = 32767", "write 0 39 65536 = -1", "write 0 39 256 = 0",
            "write 0 39 LONGMAX = 256", "write 0 39 0 = -1", "sheet 0 64 1", "write 0 0 LONGMAX = 0",
            "write 0 0 LONGMIN = LONGMAX", "write 0 0 4294967296 = LONGMIN", "write 0 0 2147483648 = 4294967296",
            "write 0 0 -1 = 2147483648", "write 0 0 0 = -1",
            // What was written may look like a finding.
            "write 0 0 -1000000001 = 0", "write 0 0 0 = -1000000001", "status -1 = 0");
        Edge.of("Promise 30", "BEYOND: no such sheet.",
            "sheet 0 8 1", "sheet 3 8 1", "write -1 0 1 = BEYOND", "write 4 0 1 = BEYOND", "write MIN 0 1 = BEYOND",
            "write MAX 0 1 = BEYOND", "write 0 0 1 = 0", "write 3 0 1 = 0", "status 0 = 4");
        Edge.of("Promise 30", "MISSING.",
            "write 0 0 1 = MISSING", "write 3 0 1 = MISSING",
            // Asked behind the sheet, ahead of the number.
            "write 0 -1 1 = MISSING", "write 0 40 1 = MISSING", "write 4 -1 1 = BEYOND", "sheet 0 8 1", "sheet 0 0 1",
            "write 0 0 1 = MISSING", "status 5 = 5");
        Edge.of("Promise 30", "BEYOND: no such number.",
            "sheet 0 8 0", "write 0 0 1 = BEYOND", "sheet 0 8 2", "write 0 -1 1 = BEYOND", "write 0 0 1 = 0",
            "write 0 1 1 = 0", "write 0 2 1 = BEYOND", "write 0 MIN 1 = BEYOND", "write 0 MAX 1 = BEYOND",
            "sheet 0 64 40", "write 0 39 1 = 0", "write 0 40 1 = BEYOND", "status 0 = 6");
    }

    private static void promise31() {
        Edge.of("Promise 31", "n numbers of a sheet from one on come to another one from one on (as they all were): n.",
            "NUMBERS 0 16: 100 101 102 103 104", "sheet 1 16 3", "copy 0 2 1 1 2 = 2", "write 1 0 0 = 0",
            "write 1 1 0 = 102", "write 1 2 0 = 103", "copy 0 0 1 0 3 = 3", "copy 1 0 0 2 3 = 3", "write 0 1 0 = 101",
            "write 0 2 0 = 100", "write 0 3 0 = 101", "write 0 4 0 = 102",
            // All 40, and the last one alone.
            "sheet 2 8 40", "write 2 0 7", "write 2 39 8", "sheet 3 8 40", "copy 2 0 3 0 40 = 40", "write 3 0 0 = 7",
            "write 3 39 0 = 8", "copy 2 39 3 39 1 = 1", "write 3 39 0 = 8", "copy 2 39 3 0 1 = 1", "write 3 0 0 = 8",
            // From the last sheet to the first, and back.
            "sheet 0 8 2", "write 3 1 9", "copy 3 1 0 1 1 = 1", "write 0 1 6 = 9", "copy 0 1 3 1 1 = 1",
            "write 3 1 0 = 6");
        Edge.of("Promise 31", "BEYOND: no such sheet (either).",
            "sheet 0 8 2", "copy -1 0 0 0 1 = BEYOND", "copy 4 0 0 0 1 = BEYOND", "copy MIN 0 0 0 1 = BEYOND",
            "copy MAX 0 0 0 1 = BEYOND", "copy 0 0 -1 0 1 = BEYOND", "copy 0 0 4 0 1 = BEYOND",
            "copy 0 0 MIN 0 1 = BEYOND", "copy 0 0 MAX 0 1 = BEYOND",
            // Asked ahead of MISSING.
            "copy 4 0 1 0 1 = BEYOND", "copy 1 0 4 0 1 = BEYOND", "status 0 = 10", "status 5 = 0");
        Edge.of("Promise 31", "MISSING: one is.",
            "sheet 0 8 2", "copy 0 0 1 0 1 = MISSING", "copy 1 0 0 0 1 = MISSING", "copy 1 0 3 0 1 = MISSING",
            "copy 1 0 1 0 0 = MISSING",
            // Asked ahead of KIND and of what one has not.
            "sheet 2 64 2", "copy 2 0 3 0 1 = MISSING", "copy 0 -1 1 0 1 = MISSING", "copy 1 0 0 0 41 = MISSING",
            "status 5 = 7", "status 2 = 0", "status 0 = 0");
        Edge.of("Promise 31", "KIND: they are not of as many bits.",
            "sheet 0 8 2", "sheet 1 16 2", "sheet 2 64 2", "copy 0 0 1 0 1 = KIND", "copy 1 0 0 0 1 = KIND",
            "copy 1 0 2 0 1 = KIND", "copy 2 0 1 0 1 = KIND", "copy 0 0 2 0 1 = KIND", "copy 0 0 2 0 0 = KIND",
            // Asked ahead of what one has not.
            "copy 0 -1 1 0 1 = KIND", "copy 0 0 1 0 3 = KIND", "copy 0 0 1 0 -1 = KIND", "status 2 = 9",
            "status 0 = 0");
        Edge.of("Promise 31", "BEYOND: one has not so many, or from, to or n is below 0.",
            "NUMBERS 0 16: 100 101 102 103 104", "NUMBERS 1 16: 1 2 3", "copy 0 5 1 3 0 = 0", "copy 0 6 1 3 0 = BEYOND",
            "copy 0 5 1 4 0 = BEYOND", "copy 0 0 1 0 0 = 0", "copy 0 4 1 0 2 = BEYOND", "copy 0 0 1 2 2 = BEYOND",
            "copy 0 0 1 0 4 = BEYOND", "copy 1 0 0 0 4 = BEYOND", "copy 0 -1 1 0 1 = BEYOND",
            "copy 0 0 1 -1 1 = BEYOND", "copy 0 1 1 1 -1 = BEYOND", "copy 0 -1 1 -1 0 = BEYOND",
            "copy 0 MAX 1 0 1 = BEYOND", "copy 0 0 1 MAX 1 = BEYOND", "copy 0 1 1 1 MAX = BEYOND",
            "copy 0 MAX 1 MAX MAX = BEYOND", "copy 0 MIN 1 0 1 = BEYOND", "copy 0 0 1 MIN 1 = BEYOND",
            "copy 0 0 1 0 MIN = BEYOND", "copy 0 MIN 1 MIN MIN = BEYOND", "status 0 = 18", "write 1 0 1 = 1",
            "write 1 2 3 = 3", "copy 0 2 1 0 3 = 3", "write 1 2 0 = 104",
            // A sheet without numbers has none to take or give.
            "sheet 2 16 0", "copy 2 0 1 0 1 = BEYOND", "copy 1 0 2 0 1 = BEYOND", "copy 1 0 2 0 0 = 0",
            "copy 2 0 2 0 0 = 0");
    }

    private static void copyOnItself() {
        Edge.of("Promise 31", "(as they all were)",
            "NUMBERS 0 64: 1 2 3 4 5 6", "copy 0 0 0 2 4 = 4", "write 0 0 1 = 1", "write 0 1 2 = 2", "write 0 2 1 = 1",
            "write 0 3 2 = 2", "write 0 4 3 = 3", "write 0 5 4 = 4", "copy 0 2 0 1 4 = 4", "write 0 0 0 = 1",
            "write 0 1 0 = 1", "write 0 2 0 = 2", "write 0 3 0 = 3", "write 0 4 0 = 4", "write 0 5 0 = 4",
            "copy 0 0 0 0 6 = 6", "copy 0 0 0 1 6 = BEYOND", "copy 0 1 0 0 6 = BEYOND");
    }

    private static void promise32() {
        Edge.of("Promise 32", "Numbers of a sheet are PACES, each for one TICK (those that aren't -99 to 99 are left out, with their TICK;",
            "block 0 5 0 1", "pace 7", "NUMBERS 0 64: -100 -99 99 100", "draws 0 = 2", "count 1 = 2", "count 6 = 0",
            "book 0 2 = 99", "book 1 2 = 99", "NUMBERS 0 64: 0 0", "draws 0 = 2", "count 1 = 4", "count 6 = 0",
            "NUMBERS 0 64: LONGMIN LONGMAX 4294967296 -4294967296 100 -100", "draws 0 = 0", "count 1 = 4",
            "count 7 = 4", "NUMBERS 0 8: 100 -100 127 -128 99 -98", "draws 0 = 2", "count 6 = 1",
            "NUMBERS 0 16: 256 -256 355 99 -99", "draws 0 = 2", "count 6 = 1", "sheet 0 8 40", "draws 0 = 40",
            "count 1 = 48", "sheet 0 8 0", "draws 0 = 0", "count 1 = 48", "count 5 = 7");
        Edge.of("Promise 32", "PACE is what it was behind all): how many TICKS there were.",
            "pace -99", "NUMBERS 3 8: 5 6", "draws 3 = 2", "count 5 = -99", "count 6 = 11", "ticks 1", "count 6 = -88",
            // THE LAW is asked by the PACE drawn: by 4 it holds 5 against 4, by 5 it holds 4 against 9.
            "NEW", "block 3 5 0 1", "LAW '9-p'", "NUMBERS 0 8: 4 5", "draws 0 = 2", "book 1 0 = 0", "book 0 0 = 1",
            "count 5 = 1");
        Edge.of("Promise 32", "BEYOND: no such sheet.",
            "draws -1 = BEYOND", "draws 4 = BEYOND", "draws MIN = BEYOND", "draws MAX = BEYOND", "count 1 = 0",
            "status 0 = 4");
        Edge.of("Promise 32", "MISSING.",
            "draws 0 = MISSING", "draws 3 = MISSING", "sheet 3 8 1", "draws 3 = 1", "sheet 3 0 1", "draws 3 = MISSING",
            "count 1 = 1", "status 5 = 3");
    }

    private static void promise33() {
        Edge.of("Promise 33", "0 if all (as many as there are) are right, else 1 and the place of the first that isn't",
            "sheet 0 8 0", "read 0 = 0", "NUMBERS 0 8: 0", "read 0 = 1", "block 0 999 0 0", "block 0 999 0 0",
            "block 0 999 0 0", "push 0 10", "push 1 -10", "push 2 300", "NUMBERS 0 16: 10", "read 0 = 0",
            "NUMBERS 0 16: 10 -10", "read 0 = 0", "NUMBERS 0 16: 10 -10 300", "read 0 = 0",
            "NUMBERS 0 16: 10 -10 300 0", "read 0 = 4", "NUMBERS 0 16: 10 -10 301", "read 0 = 3",
            "NUMBERS 0 16: 11 -10 301", "read 0 = 1", "NUMBERS 0 16: 10 10 301 0", "read 0 = 2",
            "NUMBERS 0 8: 10 -10 44", "read 0 = 3", "NUMBERS 0 64: 4294967306", "read 0 = 1",
            "NUMBERS 0 64: -4294967286", "read 0 = 1", "NUMBERS 0 64: 10", "read 0 = 0");
        Edge.of("Promise 33", "or stands for no BLOCK.",
            "10* block 0 999 0 0", "sheet 0 64 10", "read 0 = 0", "sheet 0 64 11", "read 0 = 11", "sheet 3 8 40",
            "read 3 = 11", "push 9 1", "read 3 = 10", "push 0 1", "read 3 = 1", "sheet 3 8 0", "read 3 = 0");
        Edge.of("Promise 33", "BEYOND: no such sheet.",
            "read -1 = BEYOND", "read 4 = BEYOND", "read MIN = BEYOND", "read MAX = BEYOND", "status 0 = 4");
        Edge.of("Promise 33", "MISSING.",
            "read 0 = MISSING", "read 3 = MISSING", "sheet 3 8 0", "read 3 = 0", "sheet 3 0 0", "read 3 = MISSING",
            "status 5 = 3");
    }
}
