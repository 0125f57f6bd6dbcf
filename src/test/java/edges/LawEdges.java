import java.util.ArrayList;
import java.util.List;

/** The edges of THE LAW in the Terms' section 2, and of promises 24 to 28. */
final class LawEdges {
    /** Of 60 bytes. */
    private static final String LONGEST = "1+".repeat(29) + "12";

    private LawEdges() {
    }

    static void all() {
        text();
        sums();
        products();
        factors();
        eachByte();
        blanks();
        open();
        values();
        names();
        faults();
        promise24();
        promise25();
        promise26();
        promise27();
        promise28();
    }

    /** What each TEXT gives for a BLOCK: texts and answers in turn. */
    private static void gives(String words, Object... pairs) {
        List<String> rows = new ArrayList<>();
        rows.add("block 0 7 5 0");
        for (int i = 0; i < pairs.length; i += 2) {
            rows.add("LAW '" + pairs[i] + "'");
            rows.add("says 0 = " + pairs[i + 1]);
        }
        Edge.of("Terms 2", words, rows.toArray(new String[0]));
    }

    /** The FAULT of each text: texts and places in turn. */
    private static void fails(String words, Object... pairs) {
        List<String> rows = new ArrayList<>();
        for (int i = 0; i < pairs.length; i += 2) {
            rows.add("LAW '" + pairs[i] + "' = " + (-1 - (int) pairs[i + 1]));
        }
        rows.add("count 3 = 0");
        rows.add("status -1 = 0");
        Edge.of("Terms 2", words, rows.toArray(new String[0]));
    }

    private static void text() {
        Edge.of("Terms 2", "THE LAW is a TEXT, read from THE TAPE (bytes, at most 60): E.",
            "block 0 7 5 0", "law = -1", "count 3 = 0", "TEXT '5'", "law = 0", "says 0 = 5", "count 4 = 0",
            "TEXT '" + LONGEST + "' = 60", "feed 49 1 = FULL", "count 4 = 60", "law = 0", "says 0 = 41", "count 4 = 0",
            "TEXT '" + LONGEST.substring(1) + "' = 59", "law = -1", "wipe = 59", "says 0 = 41");
    }

    private static void sums() {
        gives("E: T { + or - T }.", "1", 1, "1+2", 3, "1-2-3", -4, "1-2+3", 2, "1+2-3", 0, "1+-2", -1, "1--2", 3, "10-8/4", 8);
        fails("E: T { + or - T }.", "+1", 0, "1+", 2, "1-", 2, "1++2", 2, "1-+2", 2, "1+)", 2, "1+*2", 2);
    }

    private static void products() {
        gives("T: F { * or / F }.", "2*3", 6, "7/2*2", 6, "7*2/4", 3, "100/7/2", 7, "1+2*3", 7, "2*3+1", 7, "2*-3", -6, "7/-2", -3);
        fails("T: F { * or / F }.", "*1", 0, "/1", 0, "2*", 2, "2/", 2, "2**3", 2, "2*/3", 2, "2*+3", 2, "2*)", 2);
    }

    private static void factors() {
        gives("F: NUMBER of 1 to 3 digits,", "0", 0, "9", 9, "10", 10, "99", 99, "100", 100, "999", 999, "000", 0, "007", 7, "090", 90);
        fails("F: NUMBER of 1 to 3 digits,", "1000", 3, "0000", 3, "9999", 3, "1+2345", 5, "(1234", 4, "12s", 2, "123s", 3, "1(", 1);
        gives("NAME, - F, ( E ),", "b", 7, "-5", -5, "--5", 5, "-b", -7, "(5)", 5, "-(2-5)*2", 6, "(1+2)*3", 9, "((3))", 3, "-3+5", 2,
            "-7/2", -3, "(-1)", -1);
        fails("NAME, - F, ( E ),", "x", 0, "bb", 1, "b1", 1, "b(1)", 1, "-", 1, "-)", 1, "-+1", 1, "-*1", 1, "()", 1, "(", 1, "(1", 2,
            "(1+", 3, "(1]", 2, "(1,2)", 2, "(1)1", 3, "(1)(2)", 3, ")", 0, "1)", 1, "(1))", 3, "(1)b", 3);
        gives("or [ E , E ] (the greater one).", "[1,2]", 2, "[2,1]", 2, "[2,2]", 2, "[-1,-2]", -1, "[-2,-1]", -1, "[0,-1]", 0,
            "[1+1,9/9]", 2, "[[1,5],[7,3]]", 7, "-[3,4]", -4,
            "[512*512*512*16,512*512*512*16-1]", Integer.MAX_VALUE, "[512*512*512*16-1,512*512*512*16]",
            Integer.MAX_VALUE);
        fails("or [ E , E ] (the greater one).", "[", 1, "[]", 1, "[,2]", 1, "[1", 2, "[1]", 2, "[1)", 2, "[1,", 3, "[1,]", 3,
            "[1,2", 4, "[1,2)", 4, "[1,2,3]", 4, "[1,2]]", 5, "[1,2][", 5, ",", 0, "]", 0, "1,2", 1, "1]", 1, "[(1,2)]",
            3);
    }

    /** Each byte as the first one, and as the one behind a digit. */
    private static void eachByte() {
        for (int from = 0; from < 256; from += 64) {
            List<String> rows = new ArrayList<>();
            for (int b = from; b < from + 64; b++) {
                boolean isF = b >= '0' && b <= '9' || "sbgkdp".indexOf(b) >= 0;
                boolean begins = b == '-' || b == '(' || b == '[';
                rows.addAll(List.of("wipe", "feed " + b + " 1", "law = " + (isF ? 0 : begins ? -2 : -1), "wipe"));
                boolean goesOn = "+-*/".indexOf(b) >= 0;
                boolean isNumber = b >= '0' && b <= '9';
                rows.addAll(List.of("feed " + (b | '1' << 8) + " 2", "law = " + (isNumber ? 0 : goesOn ? -3 : -2)));
            }
            Edge.of("Terms 2", "FAULT: the place of the first byte with which no TEXT goes on;",
                rows.toArray(new String[0]));
        }
    }

    private static void blanks() {
        fails("No blanks.", " ", 0, " 1", 0, "1 ", 1, "1 +1", 1, "1+ 1", 2, "( 1)", 1, "(1 )", 2, "- 1", 1, "[1, 2]", 3, "1 2", 1);
        Edge.of("Terms 2", "No blanks.",
            // A tab, an end of line, a 0 byte.
            "feed 12553 2", "law = -2", "wipe", "feed 12554 2", "law = -2", "wipe", "feed 12544 2", "law = -2");
    }

    private static void open() {
        gives("At most 5 of ( [ and - (of F) are open at once", "(((((1)))))", 1, "[[[[[1,2],3],4],5],6]", 6, "[1,[1,[1,[1,[1,2]]]]]", 2,
            "-----1", -1, "-(-[-1,2])", 2, "[1,((((2))))]", 2, "[((((3)))),2]", 3, "(((((1-2)))))", -1,
            "(((((1)+2)+3)+4)+5)", 15);
        fails("At most 5 of ( [ and - (of F) are open at once", "((((((1", 5, "((((((", 5, "[[[[[[1", 5, "------1", 5, "-(-[--1,2])", 5,
            "[1,(((((2)))))]", 7, "[1,[1,[1,[1,[1,[1", 15, "(((((-1", 5, "(((((1--2", 7, "(((((1*-2", 7, "(((((1-(2", 7,
            "(((((1+[2", 7);
        gives("(a - till its F ends).", "-((((1))))", -1, "-1*(((((2)))))", -2, "-1-----1", -2, "-----1------1", 0,
            "-(1)-(1)-(1)-(1)-(1)-(1)", -6, "-1*-1*-1*-1*-1*-1*-1", -1, "(((((1)))))-(((((2)))))", -1,
            "----(1)*((((3))))", 3,
            "(-1)*(-1)*(-1)*(-1)*(-1)*(-1)", 1);
        fails("(a - till its F ends).", "-(((((1)))))", 5, "-----(1)", 5, "-----[1,1]", 5, "-----1-------1", 12, "-(1*(((((2", 7,
            "-(1)*((((((", 10);
    }

    private static void values() {
        gives("Ints that go round; / by 0 is 0.", "512*512*512*16", Integer.MIN_VALUE, "512*512*512*16-1", Integer.MAX_VALUE,
            "512*512*512*16-1+1", Integer.MIN_VALUE, "-(512*512*512*16)", Integer.MIN_VALUE, "512*512*512*16/-1",
            Integer.MIN_VALUE,
            "0-512*512*512*16", Integer.MIN_VALUE, "512*512*512*16*-1", Integer.MIN_VALUE, "512*512*512*32", 0,
            // 996005996001 less 232 times 2 to the 32nd.
            "999*999*999*999", -426416671);
        gives("Ints that go round; / by 0 is 0.", "5/0", 0, "0/0", 0, "-5/0", 0, "5/0+3", 3, "5/0*3+1", 1, "5/(2-2)", 0, "5/0/0", 0,
            "7/(512*512*512*32)", 0, "5/1", 5, "0/5", 0, "5/-1", -5);
    }

    private static void names() {
        Edge.of("Terms 2", "NAMES: s STOOD, b HOLD, g GO, k the BLOCK, d DROPS, p the PACE.",
            "9* block 0 1 0 0", "block 3 77 33 5", "oil 9 44", "push 8 3", "push 9 3", "pace -99", "ticks 6", "LAW 's'",
            "says 9 = 6", "holds 9 0 = 0", "holds 9 7 = 7", "holds 9 999 = 999", "LAW 'b'", "says 9 = 77", "says 0 = 1",
            "LAW 'g'", "says 9 = 33", "says 0 = 0", "LAW 'k'", "says 0 = 0", "says 8 = 8", "says 9 = 9", "LAW 'd'",
            "says 9 = 44", "says 0 = 0", "LAW 'p'", "says 9 = -99", "says 0 = -99", "holds 9 0 = 0", "pace 99",
            "says 9 = 99", "holds 9 0 = 99");
    }

    private static void faults() {
        fails("how many there are, if it ends too early.", "", 0, "1+", 2, "(", 1, "(((((", 5, "[1,", 3, "-", 1, "1*2*", 4,
            "1+".repeat(30), 60, "(" + "1+".repeat(29) + "2", 60);
        // The first one is told, whatever stands behind it.
        fails("FAULT: the place of the first byte with which no TEXT goes on;", "x)", 0, "1+x+", 2, "1)(", 1, "12 345", 2,
            LONGEST.substring(0, 59) + "x", 59, "x" + LONGEST.substring(1), 0, LONGEST.substring(0, 57) + "456", 59);
    }

    private static void promise24() {
        Edge.of("Promise 24", "THE TAPE gets the n lowest bytes of a number behind it, the highest of these first (n 1 to 4)",
            "block 0 1 0 0",
            // 8 of "98", "*8" behind two bytes of 255, "+7-" behind a 1, "100/", 3: 8*8+7-100/3.
            "feed 14648 1 = 1", "feed -54728 2 = 3", "feed 824915757 3 = 6", "feed 825241647 4 = 10", "feed 51 1 = 11",
            "count 4 = 11", "law = 0", "says 0 = 38");
        Edge.of("Promise 24", "BEYOND: n.",
            "feed 49 0 = BEYOND", "feed 49 -1 = BEYOND", "feed 49 5 = BEYOND", "feed 49 MIN = BEYOND",
            "feed 49 MAX = BEYOND", "count 4 = 0", "status 0 = 5", "feed 49 1 = 1", "feed -1 4 = 5");
        Edge.of("Promise 24", "FULL.",
            "14* feed 0 4", "count 4 = 56", "feed 0 4 = 60", "feed 0 1 = FULL", "feed 0 4 = FULL", "count 4 = 60",
            "status 1 = 2", "NEW", "19* feed 0 3", "count 4 = 57", "feed 0 4 = FULL", "count 4 = 57", "feed 0 1 = 58",
            "feed 0 3 = FULL", "feed 0 1 = 59", "feed 0 2 = FULL", "count 4 = 59", "feed 0 1 = 60", "feed 0 1 = FULL",
            // BEYOND is asked ahead of it.
            "feed 0 0 = BEYOND", "feed 0 5 = BEYOND", "status 0 = 2", "status 1 = 4",
            // Nothing of a number that isn't taken comes to THE TAPE.
            "NEW", "TEXT '" + LONGEST.substring(0,
            58) + "' = 58", "feed 858927408 4 = FULL", "feed 12849 2 = 60", "law = 0");
    }

    private static void promise25() {
        Edge.of("Promise 25", "THE TAPE is empty: how many it had.",
            "wipe = 0", "feed 49 1", "wipe = 1", "wipe = 0", "count 4 = 0",
            "TEXT '" + LONGEST + "'", "wipe = 60", "wipe = 0",
            "feed 50 1 = 1", "block 0 1 0 0", "law = 0", "says 0 = 2", "wipe = 0", "says 0 = 2");
    }

    private static void promise26() {
        Edge.of("Promise 26", "THE TAPE is THE LAW: 0; THE TAPE is empty then.",
            "block 0 7 5 0", "TEXT 'b'", "count 3 = 0", "law = 0", "count 3 = 1", "count 4 = 0", "says 0 = 7",
            "TEXT 'g'", "says 0 = 7", "law = 0", "says 0 = 5", "count 3 = 1",
            "TEXT '" + LONGEST + "'", "law = 0", "says 0 = 41",
            "TEXT '3'", "law = 0", "says 0 = 3");
        Edge.of("Promise 26", "With a FAULT: -1 less the FAULT (THE TAPE, THE LAW stay; no finding).",
            "block 0 7 5 0", "law = -1", "count 3 = 0", "TEXT 'b+'", "law = -3", "count 4 = 2", "count 3 = 0",
            "law = -3", "feed 49 1 = 3", "law = 0", "says 0 = 8", "law = -1", "says 0 = 8", "count 3 = 1", "TEXT 'x'",
            "law = -1", "count 4 = 1", "says 0 = 8",
            "wipe", "TEXT '" + "1+".repeat(30) + "'", "law = -61", "count 4 = 60", "says 0 = 8", "status -1 = 0");
    }

    private static void promise27() {
        Edge.of("Promise 27", "There is no LAW: 1 if there was, else 0.",
            "plain = 0", "block 3 8 1 1", "LAW '1'", "TEXT '12'", "plain = 1", "plain = 0", "count 3 = 0",
            "count 4 = 2", "of 0 8 = 8", "law = 0", "of 0 8 = 12", "plain = 1", "status -1 = 0");
    }

    private static void promise28() {
        Edge.of("Promise 28", "What THE LAW gives for a BLOCK (not held within anything).",
            "block 3 8 1 1", "block 0 9 1 1", "LAW '999*999'", "says 0 = 998001", "of 0 8 = 9999", "says 1 = 998001",
            "of 1 8 = 9", "LAW '-1'", "says 0 = -1", "of 0 8 = 0", "LAW '999*10+10'", "says 0 = 10000", "of 0 8 = 9999",
            // An answer that a finding could be, but is none.
            "LAW '-(999*999*999)-999*999*3-999*3-1-1'", "says 0 = -1000000001", "status -1 = 0");
        Edge.of("Promise 28", "BEYOND.",
            "says 0 = BEYOND", "LAW '1'", "says 0 = BEYOND", "block 0 1 0 0", "says 0 = 1", "says 1 = BEYOND",
            "says -1 = BEYOND", "says MIN = BEYOND", "says MAX = BEYOND", "plain", "says 1 = BEYOND", "status 0 = 7",
            "status 3 = 0");
        Edge.of("Promise 28", "NONE: there is no LAW.",
            "block 3 1 0 0", "says 0 = NONE", "LAW '1'", "says 0 = 1", "plain", "says 0 = NONE", "says 1 = BEYOND",
            "status 3 = 2", "status 0 = 1");
    }
}
