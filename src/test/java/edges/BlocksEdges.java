/** The edges of the Terms' section 1 and of promises 1 to 10. */
final class BlocksEdges {
    private BlocksEdges() {
    }

    static void all() {
        blocks();
        hand();
        holds();
        holdsLessDrops();
        holdsByTheLaw();
        rubs();
        rubsByTheRoundAhead();
        pull();
        promise1();
        promise2();
        promise3();
        promise4();
        promise5();
        promise6();
        promise7();
        promise8();
        promise9();
        promise10();
    }

    private static void blocks() {
        Edge.of("Terms 1", "BLOCKS 0, 1, .. (at most 10; in a row)",
            "count 0 = 0", "of 0 0 = BEYOND", "block 0 9 0 0 = 0", "count 0 = 1", "of 0 0 = 0", "of 1 0 = BEYOND",
            "block 1 9 0 0 = 1", "block 2 9 0 0 = 2", "block 3 9 0 0 = 3", "block 4 9 0 0 = 4", "block 5 9 0 0 = 5",
            "block 0 9 0 0 = 6", "block 0 9 0 0 = 7", "block 0 9 0 0 = 8", "count 0 = 9", "of 9 0 = BEYOND",
            "block 5 9 0 0 = 9", "count 0 = 10", "of 9 0 = 5", "of 10 0 = BEYOND", "block 0 9 0 0 = FULL",
            "count 0 = 10", "of 10 0 = BEYOND");
        Edge.of("Terms 1", "of KINDS: 0 BLOCK, 1 RUSTY under BLOCK, 2 OILED under BLOCK, 3 LAWED under BLOCK, 4 SEIZED",
            "block 0 9 0 0", "block 1 9 0 0", "block 2 9 0 0", "block 3 9 0 0", "block 4 9 0 0", "block 5 9 0 0",
            "as 0 0 = 9", "as 1 0 = 9", "as 2 0 = 4", "as 3 0 = 9", "as 4 0 = 9", "as 5 0 = 4", "as 4 1 = 9",
            "as 5 2 = 4", "as 4 2 = KIND", "as 5 1 = KIND", "as 1 4 = KIND", "as 2 5 = KIND");
        Edge.of("Terms 1", "each with a HOLD (1 to 999), a GO (0 to 999), a STIFF (0 to 99:",
            "block 0 0 0 0 = BEYOND", "block 0 1 -1 0 = BEYOND", "block 0 1 0 -1 = BEYOND", "block 0 1 0 0 = 0",
            "of 0 1 = 1", "of 0 2 = 0", "of 0 3 = 0", "block 0 1000 0 0 = BEYOND", "block 0 1 1000 0 = BEYOND",
            "block 0 1 0 100 = BEYOND", "block 0 999 999 99 = 1", "of 1 1 = 999", "of 1 2 = 999", "of 1 3 = 99",
            "count 0 = 2");
        Edge.of("Terms 1", "(0 to 99: of the spring ahead of it, to the BLOCK before it, of BLOCK 0 to THE HAND)",
            "block 0 999 0 5", "block 0 999 0 0", "block 0 999 0 7", "pace 10", "ticks 1", "push 1 100",
            // The spring from THE HAND to 0 has STIFF 5, that from 0 to 1 has 0, that from 1 to 2 has 7.
            "of 0 7 = 50", "of 1 7 = -700", "of 2 7 = 700");
        Edge.of("Terms 1", "DROPS (0 to 99; 0 at first)",
            "block 2 999 0 0", "of 0 4 = 0", "set 0 4 -1 = BEYOND", "set 0 4 100 = BEYOND", "of 0 4 = 0",
            "set 0 4 99 = 0", "of 0 4 = 99", "oil 0 1 = 99", "of 0 4 = 99", "set 0 4 0 = 99", "of 0 4 = 0");
        Edge.of("Terms 1", "a PLACE (any int; 0 at first)",
            "block 0 1 0 0", "of 0 5 = 0", "push 0 -1 = -1", "400* push 0 9999", "of 0 5 = 3999599", "NEW",
            "block 0 1 0 0", "500* push 0 -9999", "of 0 5 = -4999500");
        Edge.of("Terms 1", "STOOD (0 at first; 999 at most)",
            "block 0 1 0 0", "of 0 6 = 0", "ticks 1", "of 0 6 = 1", "9* ticks 100", "ticks 97", "of 0 6 = 998",
            "ticks 1", "of 0 6 = 999", "ticks 1", "of 0 6 = 999", "ticks 100", "of 0 6 = 999");
        Edge.of("Terms 1", "STOOD (0 at first; 999 at most)",
            // What tells STOOD from its 999 is RUSTY's HOLDS: 1, 50 and 999.
            "block 1 1 0 0", "10* ticks 100", "of 0 6 = 999", "of 0 8 = 1050", "ticks 1", "of 0 8 = 1050");
    }

    private static void hand() {
        Edge.of("Terms 1", "THE HAND has a PLACE (0 at first) and a PACE (-99 to 99; 1 at first).",
            "count 6 = 0", "count 5 = 1", "ticks 1", "count 6 = 1", "pace 100 = BEYOND", "count 5 = 1", "pace 99 = 1",
            "ticks 1", "count 6 = 100", "pace -100 = BEYOND", "count 5 = 99", "pace -99 = 99", "ticks 2",
            "count 6 = -98", "pace 0 = -99", "ticks 1", "count 6 = -98", "count 5 = 0");
    }

    private static void holds() {
        Edge.of("Terms", "Quotients are cut (towards 0).",
            // A fourth of 3 and of 7; half of 1 and of 9; half of GO 1.
            "block 0 1 0 0", "holds 0 3 = 1", "holds 0 7 = 2", "block 2 1 1 0", "holds 1 0 = 0", "rubs 1 0 = 0",
            "block 2 9 0 0", "holds 2 0 = 4",
            // STEPS (9 - 2) / 3, both ways; then (3 - 2) / 3, which is 1 at least.
            "NEW", "block 1 1 2 3", "pace 0", "push 0 3", "ticks 1 = 2", "of 0 5 = 0", "push 0 -3", "ticks 1 = 2",
            "of 0 5 = 0", "NEW", "block 0 1 0 0", "LAW '-7/2'", "says 0 = -3", "LAW '7/-2'", "says 0 = -3",
            "LAW '-7/-2'", "says 0 = 3", "LAW '-1/2'", "says 0 = 0", "LAW '1/-2'", "says 0 = 0", "LAW '-999/(999+1)'",
            "says 0 = 0");
        Edge.of("Terms 1", "HOLDS of a BLOCK by STOOD s: BLOCK: HOLD, and a fourth of s, 50 at most.",
            "block 0 7 0 0", "oil 0 99", "holds 0 0 = 7", "holds 0 3 = 7", "holds 0 4 = 8", "holds 0 7 = 8",
            "holds 0 8 = 9", "holds 0 195 = 55", "holds 0 196 = 56", "holds 0 199 = 56", "holds 0 200 = 57",
            "holds 0 203 = 57", "holds 0 204 = 57", "holds 0 999 = 57", "block 0 999 0 0", "holds 1 999 = 1049",
            "block 0 1 0 0", "holds 2 0 = 1");
        Edge.of("Terms 1", "RUSTY: as BLOCK, and s.",
            "block 1 7 0 0", "oil 0 99", "holds 0 0 = 7", "holds 0 1 = 8", "holds 0 3 = 10", "holds 0 4 = 12",
            "holds 0 39 = 55", "holds 0 40 = 57", "holds 0 199 = 255", "holds 0 200 = 257", "holds 0 204 = 261",
            "holds 0 999 = 1056");
        Edge.of("Terms 1", "SEIZED: thrice what RUSTY does, if s is 40 or more, else as RUSTY.",
            "block 4 7 0 0", "oil 0 99", "holds 0 0 = 7", "holds 0 4 = 12", "holds 0 39 = 55", "holds 0 40 = 171",
            "holds 0 41 = 174", "holds 0 200 = 771", "holds 0 999 = 3168",
            // And by its own STOOD: 39 and 40.
            "ticks 39", "of 0 6 = 39", "of 0 8 = 55", "ticks 1", "of 0 6 = 40", "of 0 8 = 171");
    }

    private static void holdsLessDrops() {
        Edge.of("Terms 1", "OILED: half of what BLOCK does, less DROPS (0 at least).",
            "block 2 7 0 0", "holds 0 0 = 3", "holds 0 3 = 3", "holds 0 4 = 4", "holds 0 200 = 28", "holds 0 999 = 28",
            "set 0 4 2", "holds 0 0 = 1", "holds 0 4 = 2", "set 0 4 3", "holds 0 0 = 0", "holds 0 4 = 1", "set 0 4 4",
            "holds 0 0 = 0", "holds 0 4 = 0", "set 0 4 99", "holds 0 0 = 0", "holds 0 999 = 0", "set 0 1 999",
            "holds 0 0 = 400", "set 0 1 1", "set 0 4 0", "holds 0 0 = 0", "holds 0 4 = 1");
        Edge.of("Terms 1", "GREASED: as OILED, less DROPS again (0 at least).",
            "block 5 20 0 0", "holds 0 0 = 10", "holds 0 7 = 10", "holds 0 8 = 11", "holds 0 999 = 35", "set 0 4 4",
            "holds 0 0 = 2", "set 0 4 5", "holds 0 0 = 0", "holds 0 8 = 1", "set 0 4 6", "holds 0 0 = 0",
            "holds 0 8 = 0", "set 0 4 10", "holds 0 0 = 0", "set 0 4 11", "holds 0 0 = 0", "set 0 4 99",
            "holds 0 0 = 0", "set 0 1 999", "holds 0 0 = 301");
    }

    private static void holdsByTheLaw() {
        Edge.of("Terms 1", "LAWED: what THE LAW gives, held within 0 to 9999 (without one: HOLD).",
            "block 3 7 0 0", "oil 0 3", "holds 0 0 = 7", "holds 0 4 = 7", "holds 0 999 = 7", "LAW 's-5'",
            "holds 0 0 = 0", "holds 0 4 = 0", "holds 0 5 = 0", "holds 0 6 = 1", "LAW '999*10+s'", "holds 0 8 = 9998",
            "holds 0 9 = 9999", "holds 0 10 = 9999", "holds 0 999 = 9999",
            // The greatest int, and one more, which is the least int.
            "LAW '512*512*512*16-1+s'", "holds 0 0 = 9999", "holds 0 1 = 0", "plain = 1", "holds 0 0 = 7",
            "holds 0 999 = 7");
    }

    private static void rubs() {
        Edge.of("Terms 1", "(no sign; 0 if it made none): BLOCK: GO less n, 0 at least.",
            "block 0 1 5 0", "rubs 0 0 = 5", "rubs 0 1 = 4", "rubs 0 4 = 1", "rubs 0 5 = 0", "rubs 0 6 = 0",
            "rubs 0 999 = 0", "set 0 2 0", "rubs 0 0 = 0", "rubs 0 1 = 0", "set 0 2 999", "rubs 0 0 = 999",
            "rubs 0 998 = 1", "rubs 0 999 = 0");
        Edge.of("Terms 1", "RUSTY: GO.",
            "block 1 1 5 0", "rubs 0 0 = 5", "rubs 0 6 = 5", "rubs 0 999 = 5", "set 0 2 0", "rubs 0 999 = 0",
            "set 0 2 999", "rubs 0 0 = 999", "rubs 0 999 = 999");
        Edge.of("Terms 1", "OILED: half of GO (cut), and n, 999 at most.",
            "block 2 1 5 0", "rubs 0 0 = 2", "rubs 0 1 = 3", "rubs 0 996 = 998", "rubs 0 997 = 999", "rubs 0 998 = 999",
            "rubs 0 999 = 999", "set 0 2 1", "rubs 0 0 = 0", "rubs 0 999 = 999", "set 0 2 0", "rubs 0 998 = 998",
            "set 0 2 999", "rubs 0 0 = 499", "rubs 0 499 = 998", "rubs 0 500 = 999", "rubs 0 501 = 999", "oil 0 99",
            "rubs 0 0 = 499");
        Edge.of("Terms 1", "LAWED, GREASED: as the KIND that they are under.",
            "block 3 1 5 0", "block 5 1 5 0", "oil 1 99", "LAW '77'", "rubs 0 0 = 5", "rubs 0 4 = 1", "rubs 0 5 = 0",
            "rubs 0 6 = 0", "rubs 0 999 = 0", "rubs 1 0 = 2", "rubs 1 1 = 3", "rubs 1 996 = 998", "rubs 1 997 = 999",
            "rubs 1 998 = 999", "rubs 1 999 = 999");
        Edge.of("Terms 1", "SEIZED: as RUSTY.",
            "block 4 1 5 0", "rubs 0 0 = 5", "rubs 0 6 = 5", "rubs 0 999 = 5", "ticks 50", "rubs 0 0 = 5",
            "rubs 0 999 = 5");
    }

    private static void rubsByTheRoundAhead() {
        Edge.of("Terms 1", "RUBS of a BLOCK by STEPS n that it made in the ROUND ahead (no sign; 0 if it made none)",
            // No sign: BLOCK goes 30 (50 less RUBS 20), then all the 20 that are left, by RUBS 0; both ways alike.
            "pace 0", "block 0 2 20 1", "push 0 50", "ticks 1 = 2", "of 0 5 = 0", "push 0 -50", "ticks 1 = 2",
            "of 0 5 = 0",
            // OILED goes 40 (50 less RUBS 10), then is held by RUBS 10 + 40; both ways alike.
            "NEW", "pace 0", "block 2 2 20 1", "push 0 50", "ticks 1 = 1", "of 0 5 = 10", "push 0 -60", "ticks 1 = 1",
            "of 0 5 = -10");
        Edge.of("Terms 1", "RUBS of a BLOCK by STEPS n that it made in the ROUND ahead (no sign; 0 if it made none)",
            // ROUND 1: BLOCK 1 goes 40 to 0, BLOCK 0 (drawn by -40 and by 40) holds. ROUND 2: BLOCK 1 rests, BLOCK 0
            // goes 1 (40 less 39, by 2). ROUND 3: BLOCK 1 made no STEPS in ROUND 2, so that its RUBS are 0: it goes 1.
            "block 1 5 39 1", "block 2 1 0 1", "push 1 40", "pace -40", "ticks 1 = 3", "book 0 1 = 3", "book 0 2 = 42",
            "of 0 5 = -1", "of 1 5 = -1");
        Edge.of("Terms 1", "RUBS of a BLOCK by STEPS n that it made in the ROUND ahead (no sign; 0 if it made none)",
            // Ahead of the first ROUND of a TICK is none, also behind a TICK that CHATTERED with 999 STEPS in its
            // last one: from 1500 it goes 999 by RUBS 0, then RUBS 999 hold it.
            "pace 0", "block 2 1 0 1", "4* push 0 -9999", "push 0 -1464", "ticks 1 = 40", "of 0 5 = -1500",
            "ticks 1 = 1", "of 0 5 = -501");
        Edge.of("Terms 1", "RUBS of a BLOCK by STEPS n that it made in the ROUND ahead (no sign; 0 if it made none)",
            // In each TICK OILED slips anew by RUBS 10, not by what it went in the TICK ahead.
            "pace 0", "block 2 2 20 1", "push 0 50", "ticks 1 = 1", "of 0 5 = 10", "push 0 40", "ticks 1 = 1",
            "of 0 5 = 10");
    }

    private static void pull() {
        Edge.of("Terms 1", "PULL of a BLOCK: its STIFF times (PLACE of the one before it, less its own), less STIFF",
            "block 0 999 0 2", "push 0 10", "of 0 7 = -20", "pace 4", "ticks 1", "of 0 7 = -12",
            // With one behind it: 2 * (4 - 10) - 3 * (10 + 4), and of that one 3 * (10 + 4).
            "block 0 999 0 3", "push 1 -4", "of 0 7 = -54", "of 1 7 = 42",
            // Ten in a row, the last of which has none behind.
            "7* block 0 999 0 0", "block 0 999 0 99 = 9", "push 8 5", "of 8 7 = -495", "of 9 7 = 495", "push 9 6",
            "of 9 7 = -99");
        Edge.of("Terms 1", "Ints that go round.",
            // 500 calls draw nothing so far that a PULL goes round; this is as far as they can draw one.
            "block 0 1 0 99", "block 0 1 0 99", "250* push 0 -9999", "250* push 1 9999", "of 0 7 = 742425750",
            "of 1 7 = -494950500",
            // THE LAW's ints do: the HOLDS of BLOCK 0 are those of the greatest int and of one more.
            "NEW", "block 3 1 0 0", "LAW '512*512*512*16-1'", "of 0 8 = 9999", "LAW '512*512*512*16'", "of 0 8 = 0");
    }

    private static void promise1() {
        Edge.of("Promise 1", "No BLOCKS, no LAW; THE TAPE, THE BOOK are empty, no image is kept.",
            "count 0 = 0", "count 1 = 0", "count 2 = 0", "count 3 = 0", "count 4 = 0", "count 7 = 0", "status -1 = 0",
            "of 0 0 = BEYOND", "plain = 0", "wipe = 0", "law = -1", "book 0 0 = BEYOND", "undo = NONE", "tear = 0",
            "counts 0 = 0", "counts 1 = 0", "counts 2 = 0", "counts 3 = 0", "counts 4 = 0", "counts 5 = 0",
            "counts 6 = 0");
    }

    private static void promise2() {
        Edge.of("Promise 2", "A new BLOCK, behind all others: its number.",
            "pace 0", "block 4 80 7 6 = 0", "push 0 5", "ticks 3", "block 5 1 2 3 = 1", "of 1 0 = 5", "of 1 1 = 1",
            "of 1 2 = 2", "of 1 3 = 3", "of 1 4 = 0", "of 1 5 = 0", "of 1 6 = 0", "of 0 0 = 4", "of 0 1 = 80",
            "of 0 2 = 7", "of 0 3 = 6",
            // It is behind the other: drawn by it, 3 * (5 - 0), not by THE HAND.
            "of 0 5 = 5", "of 1 7 = 15");
        Edge.of("Promise 2", "BEYOND: kind, hold, go, stiff.",
            "block -1 1 0 0 = BEYOND", "block MIN 1 0 0 = BEYOND", "block 6 1 0 0 = BEYOND", "block MAX 1 0 0 = BEYOND",
            "block 0 0 0 0 = BEYOND", "block 0 MIN 0 0 = BEYOND", "block 0 1000 0 0 = BEYOND",
            "block 0 MAX 0 0 = BEYOND", "block 0 1 -1 0 = BEYOND", "block 0 1 MIN 0 = BEYOND",
            "block 0 1 1000 0 = BEYOND", "block 0 1 MAX 0 = BEYOND", "block 0 1 0 -1 = BEYOND",
            "block 0 1 0 MIN = BEYOND", "block 0 1 0 100 = BEYOND", "block 0 1 0 MAX = BEYOND", "count 0 = 0",
            "status 0 = 16", "block 0 1 0 0 = 0", "block 5 999 999 99 = 1", "block 5 1 999 0 = 2",
            "block 0 999 0 99 = 3", "count 0 = 4");
        Edge.of("Promise 2", "FULL.",
            "9* block 0 1 0 0", "block 0 1 0 0 = 9", "block 0 1 0 0 = FULL", "block 5 999 999 99 = FULL",
            "count 0 = 10",
            // BEYOND is asked ahead of it.
            "block 6 1 0 0 = BEYOND", "block 0 0 0 0 = BEYOND", "block 0 1 1000 0 = BEYOND", "block 0 1 0 -1 = BEYOND",
            "status 0 = 4", "status 1 = 2");
    }

    private static void promise3() {
        Edge.of("Promise 3", "Of a BLOCK: what 0 KIND, 1 HOLD, 2 GO, 3 STIFF, 4 DROPS, 5 PLACE, 6 STOOD, 7 PULL, 8 HOLDS",
            "block 2 30 7 4", "oil 0 2", "push 0 -3", "pace 0", "ticks 8", "of 0 0 = 2", "of 0 1 = 30", "of 0 2 = 7",
            "of 0 3 = 4", "of 0 4 = 2", "of 0 5 = -3", "of 0 6 = 8", "of 0 7 = 12", "of 0 8 = 14");
        Edge.of("Promise 3", "BEYOND.",
            "of 0 0 = BEYOND", "of 0 8 = BEYOND", "block 0 1 0 0", "of 0 -1 = BEYOND", "of 0 0 = 0", "of 0 8 = 1",
            "of 0 9 = BEYOND", "of 0 MIN = BEYOND", "of 0 MAX = BEYOND", "of -1 0 = BEYOND", "of 1 0 = BEYOND",
            "of MIN 0 = BEYOND", "of MAX 0 = BEYOND", "9* block 0 2 0 0", "of 9 1 = 2", "of 10 1 = BEYOND",
            "status 0 = 11");
    }

    private static void promise4() {
        Edge.of("Promise 4", "HOLD (what 1), GO (2), STIFF (3), DROPS (4) of a BLOCK becomes v: what it was.",
            "block 0 5 6 7", "set 0 1 999 = 5", "set 0 2 998 = 6", "set 0 3 97 = 7", "set 0 4 96 = 0", "of 0 1 = 999",
            "of 0 2 = 998", "of 0 3 = 97", "of 0 4 = 96", "set 0 1 1 = 999", "set 0 2 0 = 998", "set 0 3 0 = 97",
            "set 0 4 0 = 96", "of 0 1 = 1", "of 0 2 = 0", "of 0 3 = 0", "of 0 4 = 0", "set 0 2 999 = 0",
            "set 0 3 99 = 0", "set 0 4 99 = 0", "of 0 2 = 999", "of 0 3 = 99", "of 0 4 = 99", "of 0 0 = 0",
            "of 0 5 = 0", "of 0 6 = 0");
        Edge.of("Promise 4", "BEYOND.",
            "set 0 1 5 = BEYOND", "block 0 5 6 7", "block 0 5 6 7", "set -1 1 5 = BEYOND", "set 2 1 5 = BEYOND",
            "set MIN 1 5 = BEYOND", "set MAX 1 5 = BEYOND", "set 0 0 1 = BEYOND", "set 0 -1 1 = BEYOND",
            "set 0 5 1 = BEYOND", "set 0 6 1 = BEYOND", "set 0 MIN 1 = BEYOND", "set 0 MAX 1 = BEYOND",
            "set 0 1 0 = BEYOND", "set 0 1 1000 = BEYOND", "set 0 1 MIN = BEYOND", "set 0 1 MAX = BEYOND",
            "set 0 2 -1 = BEYOND", "set 0 2 1000 = BEYOND", "set 0 2 MIN = BEYOND", "set 0 2 MAX = BEYOND",
            "set 0 3 -1 = BEYOND", "set 0 3 100 = BEYOND", "set 0 3 MIN = BEYOND", "set 0 3 MAX = BEYOND",
            "set 0 4 -1 = BEYOND", "set 0 4 100 = BEYOND", "set 0 4 MIN = BEYOND", "set 0 4 MAX = BEYOND", "of 0 0 = 0",
            "of 0 1 = 5", "of 0 2 = 6", "of 0 3 = 7", "of 0 4 = 0", "status 0 = 27", "set 1 1 6 = 5");
    }

    private static void promise5() {
        Edge.of("Promise 5", "A BLOCK as one of a kind: HOLDS, by its own KIND, whichever one is named.",
            "block 0 40 0 0", "block 1 41 0 0", "block 2 42 0 0", "block 3 43 0 0", "block 4 44 0 0", "block 5 45 0 0",
            "oil 5 3", "LAW 's+b'", "ticks 40", "as 0 0 = 50", "as 1 0 = 91", "as 1 1 = 91", "as 2 0 = 26",
            "as 2 2 = 26", "as 3 0 = 83", "as 3 3 = 83", "as 4 0 = 282", "as 4 1 = 282", "as 4 4 = 282", "as 5 0 = 21",
            "as 5 2 = 21", "as 5 5 = 21");
        Edge.of("Promise 5", "BEYOND: no such BLOCK, kind.",
            "as 0 0 = BEYOND", "block 0 1 0 0", "as 0 0 = 1", "as -1 0 = BEYOND", "as 1 0 = BEYOND",
            "as MIN 0 = BEYOND", "as MAX 0 = BEYOND", "as 0 -1 = BEYOND", "as 0 6 = BEYOND", "as 0 MIN = BEYOND",
            "as 0 MAX = BEYOND",
            // Asked ahead of KIND: BLOCK 0 is of none of these, but 6 is no kind and 1 no BLOCK.
            "as 0 5 = KIND", "as 0 6 = BEYOND", "as 1 5 = BEYOND", "as 1 6 = BEYOND", "status 0 = 12", "status 2 = 1");
        Edge.of("Promise 5", "KIND: it isn't of that kind, nor of one under it.",
            "block 0 9 0 0", "block 1 9 0 0", "block 2 9 0 0", "block 3 9 0 0", "block 4 9 0 0", "block 5 9 0 0",
            "as 0 1 = KIND", "as 0 2 = KIND", "as 0 3 = KIND", "as 0 4 = KIND", "as 0 5 = KIND", "as 1 2 = KIND",
            "as 1 3 = KIND", "as 1 4 = KIND", "as 1 5 = KIND", "as 2 1 = KIND", "as 2 3 = KIND", "as 2 4 = KIND",
            "as 2 5 = KIND", "as 3 1 = KIND", "as 3 2 = KIND", "as 3 4 = KIND", "as 3 5 = KIND", "as 4 2 = KIND",
            "as 4 3 = KIND", "as 4 5 = KIND", "as 5 1 = KIND", "as 5 3 = KIND", "as 5 4 = KIND", "status 2 = 23",
            "status -1 = 23");
    }

    private static void promise6() {
        Edge.of("Promise 6", "HOLDS of a BLOCK by STOOD s (0 to 999).",
            "block 1 5 0 0", "ticks 10", "holds 0 0 = 5", "holds 0 1 = 6", "holds 0 998 = 1053", "holds 0 999 = 1054",
            "of 0 6 = 10", "of 0 8 = 17");
        Edge.of("Promise 6", "BEYOND.",
            "holds 0 0 = BEYOND", "block 0 5 0 0", "holds 0 -1 = BEYOND", "holds 0 0 = 5", "holds 0 999 = 55",
            "holds 0 1000 = BEYOND", "holds 0 MIN = BEYOND", "holds 0 MAX = BEYOND", "holds -1 0 = BEYOND",
            "holds 1 0 = BEYOND", "holds MIN 0 = BEYOND", "holds MAX 0 = BEYOND", "9* block 0 6 0 0", "holds 9 0 = 6",
            "holds 10 0 = BEYOND", "status 0 = 10");
    }

    private static void promise7() {
        Edge.of("Promise 7", "RUBS of a BLOCK by STEPS n (0 to 999).",
            "block 2 5 500 0", "rubs 0 0 = 250", "rubs 0 1 = 251", "rubs 0 748 = 998", "rubs 0 749 = 999",
            "rubs 0 999 = 999");
        Edge.of("Promise 7", "BEYOND.",
            "rubs 0 0 = BEYOND", "block 1 5 3 0", "rubs 0 -1 = BEYOND", "rubs 0 0 = 3", "rubs 0 999 = 3",
            "rubs 0 1000 = BEYOND", "rubs 0 MIN = BEYOND", "rubs 0 MAX = BEYOND", "rubs -1 0 = BEYOND",
            "rubs 1 0 = BEYOND", "rubs MIN 0 = BEYOND", "rubs MAX 0 = BEYOND", "9* block 1 5 4 0", "rubs 9 0 = 4",
            "rubs 10 0 = BEYOND", "status 0 = 10");
    }

    private static void promise8() {
        Edge.of("Promise 8", "A BLOCK is moved by hand by n (-9999 to 9999); its STOOD is 0: its PLACE.",
            "block 0 1 0 0", "block 0 1 0 0", "ticks 5", "push 0 9999 = 9999", "of 0 6 = 0", "of 1 6 = 5", "of 1 5 = 0",
            "push 0 9999 = 19998", "push 0 -9999 = 9999", "push 0 -9999 = 0", "push 0 -9999 = -9999", "of 0 5 = -9999",
            "ticks 2", "of 0 6 = 2", "push 0 0 = -9999", "of 0 6 = 0", "of 1 6 = 7", "count 1 = 7", "book 0 0 = 0");
        Edge.of("Promise 8", "BEYOND.",
            "push 0 1 = BEYOND", "block 0 1 0 0", "ticks 5", "push 0 10000 = BEYOND", "push 0 -10000 = BEYOND",
            "push 0 MIN = BEYOND", "push 0 MAX = BEYOND", "push -1 0 = BEYOND", "push 1 0 = BEYOND",
            "push MIN 0 = BEYOND", "push MAX 0 = BEYOND", "of 0 5 = 0", "of 0 6 = 5", "status 0 = 9");
    }

    private static void promise9() {
        Edge.of("Promise 9", "n more DROPS (1 to 99) on a BLOCK: how many it has (99 at most; what is more is lost).",
            "block 0 1 0 0", "block 0 1 0 0", "oil 0 1 = 1", "oil 0 97 = 98", "of 0 4 = 98", "oil 0 1 = 99",
            "of 0 4 = 99", "oil 0 1 = 99", "of 0 4 = 99", "of 1 4 = 0", "oil 1 99 = 99", "oil 1 99 = 99", "set 1 4 98",
            "oil 1 2 = 99", "of 1 4 = 99",
            // What is more is lost: one TICK in which it moves takes the 99th.
            "pace 2", "set 0 3 1", "ticks 1 = 1", "of 0 4 = 98");
        Edge.of("Promise 9", "BEYOND.",
            "oil 0 1 = BEYOND", "block 0 1 0 0", "oil 0 0 = BEYOND", "oil 0 -1 = BEYOND", "oil 0 100 = BEYOND",
            "oil 0 MIN = BEYOND", "oil 0 MAX = BEYOND", "oil -1 1 = BEYOND", "oil 1 1 = BEYOND", "oil MIN 1 = BEYOND",
            "oil MAX 1 = BEYOND", "of 0 4 = 0", "status 0 = 10", "oil 0 99 = 99", "oil 0 100 = BEYOND",
            "oil 0 0 = BEYOND");
    }

    private static void promise10() {
        Edge.of("Promise 10", "PACE becomes v: what it was.",
            "pace 99 = 1", "count 5 = 99", "pace -99 = 99", "count 5 = -99", "pace 0 = -99", "pace 5 = 0",
            "count 6 = 0");
        Edge.of("Promise 10", "BEYOND.",
            "pace 100 = BEYOND", "pace -100 = BEYOND", "pace MIN = BEYOND", "pace MAX = BEYOND", "count 5 = 1",
            "status 0 = 4");
    }
}
