/** Promises 24 to 28. */
public final class LawTest {
    public static void main(String[] args) {
        feed();
        law();
        values();
        names();
        faults();
        opens();
        plain();
        says();
        inTicks();
        Check.end();
    }

    private static void feed() {
        DoorCreaks x = new DoorCreaks();
        Check.due("24: n 0", x.feed(1, 0), Check.BEYOND);
        Check.due("24: n 5", x.feed(1, 5), Check.BEYOND);
        Check.due("24: n far", x.feed(1, Integer.MIN_VALUE), Check.BEYOND);
        Check.due("24: one", x.feed('9' | '8' << 8, 1), 1);
        Check.due("24: two", x.feed('*' << 8 | '8', 2), 3);
        Check.due("24: three", x.feed('+' << 16 | '7' << 8 | '-', 3), 6);
        Check.due("24: four", x.feed('1' << 24 | '0' << 16 | '0' << 8 | '/', 4), 10);
        x.feed('3', 1);
        x.block(3, 1, 1, 1);
        Check.due("24: highest first", x.law(), 0);
        Check.due("24: highest first", x.says(0), 9 * 8 + 7 - 100 / 3);
        for (int i = 1; i <= 15; i++) {
            Check.due("24: has", x.feed(-1, 4), 4 * i);
        }
        Check.due("24: full", x.feed(0, 1), Check.FULL);
        Check.due("24: beyond ahead of full", x.feed(0, 0), Check.BEYOND);
        Check.due("24: bytes", x.count(4), 60);
        Check.due("25: wipe", x.wipe(), 60);
        Check.due("25: wipe", x.wipe(), 0);
        Check.due("25: bytes", x.count(4), 0);
        for (int i = 0; i < 19; i++) {
            x.feed(0, 3);
        }
        Check.due("24: 57 and 4", x.feed(0, 4), Check.FULL);
        Check.due("24: 57 and 3", x.feed(0, 3), 60);
        x.wipe();
        x.feed(128 << 24 | 255, 4);
        Check.due("24: bytes above 127 are no text", x.law(), -1);
        x.wipe();
        x.feed('1' << 8, 2);
        Check.due("24: nor is 0", x.law(), -2);
    }

    private static void law() {
        DoorCreaks x = new DoorCreaks();
        x.block(0, 7, 1, 1);
        Check.due("26: empty", x.law(), -1);
        Check.feed(x, "b");
        Check.due("26: law", x.law(), 0);
        Check.due("26: tape", x.count(4), 0);
        Check.due("26: there", x.count(3), 1);
        Check.due("26: says", x.says(0), 7);
        Check.due("26: empty, with a law", x.law(), -1);
        Check.due("26: stays", x.says(0), 7);
        Check.feed(x, "b+");
        Check.due("26: fault", x.law(), -3);
        Check.due("26: tape stays", x.count(4), 2);
        Check.due("26: law stays", x.says(0), 7);
        x.feed('1', 1);
        Check.due("26: goes on", x.law(), 0);
        Check.due("26: another law", x.says(0), 8);
        Check.due("26: no finding", x.status(-1), 0);
        x.wipe();
        Check.due("26: 60 bytes", Check.law(x, "111+".repeat(14) + "1111".substring(0, 3) + "+"), -61);
        Check.due("26: 60 bytes", Check.law(x, "111+".repeat(14) + "11+2"), 0);
        Check.due("26: 60 bytes", x.says(0), 14 * 111 + 13);
    }

    private static void says(DoorCreaks x, String text, int due) {
        Check.due("26: " + text, Check.law(x, text), 0);
        Check.due("28: " + text, x.says(0), due);
    }

    private static void values() {
        DoorCreaks x = new DoorCreaks();
        x.block(3, 1, 0, 0);
        says(x, "0", 0);
        says(x, "007", 7);
        says(x, "999", 999);
        says(x, "1-2-3", -4);
        says(x, "1-2+3", 2);
        says(x, "100/7/2", 7);
        says(x, "7/2*2", 6);
        says(x, "7*2/4", 3);
        says(x, "1+2*3", 7);
        says(x, "2*3+1", 7);
        says(x, "(1+2)*3", 9);
        says(x, "10-8/4", 8);
        says(x, "-7/2", -3);
        says(x, "7/-2", -3);
        says(x, "--5", 5);
        says(x, "-3+5", 2);
        says(x, "2*-3", -6);
        says(x, "2--3", 5);
        says(x, "-(2-5)*2", 6);
        says(x, "[1,2]", 2);
        says(x, "[2,1]", 2);
        says(x, "[-2,-1]", -1);
        says(x, "-[3,4]*[1+1,9/9]", -8);
        says(x, "[[1,5],[7,3]]", 7);
        says(x, "5/0", 0);
        says(x, "5/0+3", 3);
        says(x, "-5/(2-2)", 0);
        says(x, "((((([1,2])))))".substring(1, 14), 2);
        // 996005996001 less 232 times 2 to the 32nd.
        says(x, "999*999*999*999", (int) (996005996001L - 232 * (1L << 32)));
        // 2 to the 31st goes round; its quotient by -1 is itself.
        says(x, "512*512*512*16", -2147483648);
        says(x, "512*512*512*16/-1", -2147483648);
        says(x, "-(512*512*512*16)", -2147483648);
        says(x, "512*512*512*16-1", 2147483647);
        says(x, "-(512*512*512*16-1)-2", 2147483647);
    }

    private static void names() {
        DoorCreaks x = new DoorCreaks();
        x.block(0, 1, 0, 0);
        x.block(2, 77, 33, 5);
        x.oil(1, 44);
        x.pace(-9);
        x.ticks(6);
        String names = "sbgkdp";
        int[] due = {6, 77, 33, 1, 44, -9};
        for (int i = 0; i < due.length; i++) {
            Check.due("26: name", Check.law(x, names.substring(i, i + 1)), 0);
            Check.due("28: " + names.charAt(i), x.says(1), due[i]);
        }
        Check.law(x, "s+b*g-k/d+p*[s,p]");
        Check.due("28: all", x.says(1), 6 + 77 * 33 - 0 - 9 * 6);
    }

    private static void faults() {
        DoorCreaks x = new DoorCreaks();
        String[] texts = {
            "", "+", "*1", ")", "]", ",", "x", " 1", "1 ", "1+", "1+*2", "1**2", "1*/2", "1+)", "12345", "1234", "123s",
            "1s", "s1", "ss", "s(1)", "(1)2", "(1)(2)", "()", "(", "(1", "(1+", "(1]", "(1,2)", "[", "[1", "[1,", "[1,2",
            "[1)", "[1]", "[,2]", "[1,]", "[1,2)", "[1,2,3]", "[(1,2)]", "([1,2]", "([1,2]]", "-", "--", "-+1", "1-",
            "-)", "1)", "1]", "1,2", "1+(2*3))", "1+(2*(3)", "S", "1.5", "b=2",
        };
        int[] places = {
            0, 0, 0, 0, 0, 0, 0, 0, 1, 2, 2, 2, 2, 2, 3, 3, 3,
            1, 1, 1, 1, 3, 3, 1, 1, 2, 3, 2, 2, 1, 2, 3, 4,
            2, 2, 1, 3, 4, 4, 3, 6, 6, 1, 2, 1, 2,
            1, 1, 1, 1, 7, 8, 0, 1, 1,
        };
        Check.due("as many places as texts", places.length, texts.length);
        for (int i = 0; i < texts.length; i++) {
            Check.due("26: " + texts[i], Check.law(x, texts[i]), -1 - places[i]);
        }
        Check.due("26: no law", x.count(3), 0);
    }

    private static void opens() {
        DoorCreaks x = new DoorCreaks();
        x.block(0, 1, 1, 1);
        says(x, "(((((1)))))", 1);
        says(x, "-----1", -1);
        says(x, "-----1-----1+----1", -1 - 1 + 1);
        says(x, "-(-(-1))-(-(-1))", -2);
        says(x, "[[[[[1,2],3],4],5],6]", 6);
        says(x, "[1,[1,[1,[1,[1,2]]]]]", 2);
        says(x, "(((((1)*(2))*(3))*(4))*(5))".substring(1, 26), 120);
        String[] texts = {"((((((1", "------1", "-(-(-(1", "[[[[[[1", "[1,[1,[1,[1,[1,[1", "(((((-1", "(((((1)-(-(-(-(-(1",
            "-(-(1-1)-(-(1--(--1"};
        int[] places = {5, 5, 5, 5, 15, 5, 9, 14};
        for (int i = 0; i < texts.length; i++) {
            Check.due("26: " + texts[i], Check.law(x, texts[i]), -1 - places[i]);
        }
        Check.due("26: a 6th ahead of the end", Check.law(x, "(((((("), -6);
        Check.due("26: five and the end", Check.law(x, "((((("), -6);
        Check.due("26: four and the end", Check.law(x, "(((("), -5);
    }

    private static void plain() {
        DoorCreaks x = new DoorCreaks();
        x.block(3, 8, 1, 1);
        Check.law(x, "1");
        Check.feed(x, "12");
        Check.due("27: was", x.plain(), 1);
        Check.due("27: was not", x.plain(), 0);
        Check.due("27: count", x.count(3), 0);
        Check.due("27: tape stays", x.count(4), 2);
        Check.due("27: holds", x.of(0, 8), 8);
        Check.due("27: says", x.says(0), Check.NONE);
    }

    private static void says() {
        DoorCreaks x = new DoorCreaks();
        x.block(3, 8, 1, 1);
        Check.due("28: none", x.says(0), Check.NONE);
        Check.due("28: beyond ahead of none", x.says(1), Check.BEYOND);
        Check.law(x, "999*999");
        Check.due("28: not held", x.says(0), 998001);
        Check.due("28: held", x.of(0, 8), 9999);
        Check.law(x, "0-999*999");
        Check.due("28: not held", x.says(0), -998001);
        Check.due("28: held", x.of(0, 8), 0);
        Check.due("28: block", x.says(1), Check.BEYOND);
        Check.due("28: block", x.says(-1), Check.BEYOND);
        Check.law(x, "-(999*999*999+999*999*3)-4*999+1-3");
        int was = x.status(-1);
        x.says(0);
        Check.law(x, "-(999*999*999)-999*999*3-999*3-1-1");
        Check.due("28: what looks like a finding", x.says(0), -1000000001);
        Check.due("28: is none", x.status(-1), was);
    }

    private static void inTicks() {
        DoorCreaks x = new DoorCreaks();
        x.block(3, 1, 0, 1);
        Check.law(x, "0");
        Check.due("11: a PULL of 1", x.ticks(1), 1);
        Check.due("11: a PULL of 1", x.of(0, 5), 1);
        Check.law(x, "9-s*2");
        x.pace(2);
        // PULL 2, 4, 6 by HOLDS 9, 7, 5.
        Check.due("11: by the law", x.until(1, 9), 3);
        Check.law(x, "p*3");
        Check.due("11: by the pace", x.until(1, 9), 4);
        Check.due("20: by the pace of each", x.from(4), Check.NONE);
        // The least p with p above p / 2 + 20.
        Check.law(x, "p/2+20");
        Check.due("20: by the pace of each", x.from(4), 41);
    }
}
