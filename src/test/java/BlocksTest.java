/** Promises 1 to 10. */
public final class BlocksTest {
    private static final int[] FAR = {Integer.MIN_VALUE, -1000000001, -1, 1000, Integer.MAX_VALUE};

    public static void main(String[] args) {
        newObject();
        block();
        of();
        pull();
        set();
        as();
        holds();
        holdsOfDrops();
        holdsOfLawed();
        rubs();
        push();
        oil();
        pace();
        Check.end();
    }

    private static void newObject() {
        DoorCreaks x = new DoorCreaks();
        int[] counts = {0, 0, 0, 0, 0, 1, 0, 0};
        for (int what = 0; what < counts.length; what++) {
            Check.due("1: count " + what, x.count(what), counts[what]);
        }
        for (int c = 0; c < 7; c++) {
            Check.due("1: counts " + c, x.counts(c), 0);
        }
        Check.due("1: status", x.status(-1), 0);
        Check.due("1: undo", x.undo(), Check.NONE);
        Check.due("1: tear", x.tear(), 0);
        Check.due("1: plain", x.plain(), 0);
        Check.due("1: wipe", x.wipe(), 0);
        Check.due("1: book", x.book(0, 0), Check.BEYOND);
        for (int s = 0; s < 4; s++) {
            Check.due("1: sheet " + s, x.read(s), Check.MISSING);
        }
    }

    private static void block() {
        DoorCreaks x = new DoorCreaks();
        for (int far : FAR) {
            Check.due("2: kind " + far, x.block(far, 1, 0, 0), Check.BEYOND);
            Check.due("2: hold " + far, x.block(0, far, 0, 0), Check.BEYOND);
            Check.due("2: go " + far, x.block(0, 1, far, 0), Check.BEYOND);
            Check.due("2: stiff " + far, x.block(0, 1, 0, far), Check.BEYOND);
        }
        Check.due("2: kind 6", x.block(6, 1, 0, 0), Check.BEYOND);
        Check.due("2: hold 0", x.block(0, 0, 0, 0), Check.BEYOND);
        Check.due("2: stiff 100", x.block(0, 1, 0, 100), Check.BEYOND);
        Check.due("2: none came", x.count(0), 0);
        Check.due("2: least", x.block(0, 1, 0, 0), 0);
        Check.due("2: most", x.block(5, 999, 999, 99), 1);
        for (int b = 2; b < 10; b++) {
            Check.due("2: number", x.block(b % 6, b, b, b), b);
        }
        Check.due("2: full", x.block(0, 1, 0, 0), Check.FULL);
        Check.due("2: beyond ahead of full", x.block(6, 1, 0, 0), Check.BEYOND);
        Check.due("2: ten", x.count(0), 10);
        Check.due("2: of the last", x.of(9, 1), 9);
        Check.due("2: FULL counted", x.status(1), 1);
    }

    private static void of() {
        DoorCreaks x = new DoorCreaks();
        x.block(2, 30, 7, 4);
        x.oil(0, 2);
        x.push(0, -3);
        x.pace(0);
        x.ticks(8);
        int[] due = {2, 30, 7, 4, 2, -3, 8, 12, 14};
        for (int what = 0; what < due.length; what++) {
            Check.due("3: what " + what, x.of(0, what), due[what]);
        }
        Check.due("3: what -1", x.of(0, -1), Check.BEYOND);
        Check.due("3: what 9", x.of(0, 9), Check.BEYOND);
        Check.due("3: block -1", x.of(-1, 0), Check.BEYOND);
        Check.due("3: block 1", x.of(1, 0), Check.BEYOND);
        Check.due("3: block 10", x.of(10, 0), Check.BEYOND);
        Check.due("3: block far", x.of(Integer.MIN_VALUE, 0), Check.BEYOND);
        Check.due("3: none at all", new DoorCreaks().of(0, 0), Check.BEYOND);
    }

    private static void pull() {
        DoorCreaks x = new DoorCreaks();
        x.block(0, 999, 0, 2);
        x.block(0, 999, 0, 3);
        x.block(0, 999, 0, 5);
        x.push(0, 10);
        x.push(1, -4);
        x.push(2, 1);
        x.pace(20);
        x.ticks(1);
        Check.due("3: first", x.of(0, 7), 2 * (20 - 10) - 3 * (10 + 4));
        Check.due("3: midst", x.of(1, 7), 3 * (10 + 4) - 5 * (-4 - 1));
        Check.due("3: last", x.of(2, 7), 5 * (-4 - 1));
    }

    private static void set() {
        DoorCreaks x = new DoorCreaks();
        x.block(0, 5, 6, 7);
        int[] was = {0, 5, 6, 7, 0};
        int[] most = {0, 999, 999, 99, 99};
        for (int what = 1; what <= 4; what++) {
            int least = what == 1 ? 1 : 0;
            Check.due("4: first " + what, x.set(0, what, most[what]), was[what]);
            Check.due("4: is " + what, x.of(0, what), most[what]);
            Check.due("4: above " + what, x.set(0, what, most[what] + 1), Check.BEYOND);
            Check.due("4: below " + what, x.set(0, what, least - 1), Check.BEYOND);
            Check.due("4: far " + what, x.set(0, what, Integer.MAX_VALUE), Check.BEYOND);
            Check.due("4: stays " + what, x.of(0, what), most[what]);
            Check.due("4: least " + what, x.set(0, what, least), most[what]);
            Check.due("4: is least " + what, x.of(0, what), least);
        }
        Check.due("4: what 0", x.set(0, 0, 1), Check.BEYOND);
        Check.due("4: what 5", x.set(0, 5, 1), Check.BEYOND);
        Check.due("4: what -1", x.set(0, -1, 1), Check.BEYOND);
        Check.due("4: block", x.set(1, 1, 1), Check.BEYOND);
        Check.due("4: block", x.set(-1, 1, 1), Check.BEYOND);
    }

    private static void as() {
        DoorCreaks x = new DoorCreaks();
        // As which KINDS each KIND can be taken: itself, and those that it is under.
        int[] taken = {1, 1 | 2, 1 | 4, 1 | 8, 1 | 2 | 16, 1 | 4 | 32};
        for (int kind = 0; kind < 6; kind++) {
            x.block(kind, 40 + kind, 0, 0);
        }
        x.ticks(40);
        int[] holds = {50, 41 + 50, 26, 43, 3 * (44 + 50), 27};
        for (int kind = 0; kind < 6; kind++) {
            for (int named = 0; named < 6; named++) {
                long due = (taken[kind] >> named & 1) == 1 ? holds[kind] : Check.KIND;
                Check.due("5: " + kind + " as " + named, x.as(kind, named), due);
            }
            Check.due("5: as -1", x.as(kind, -1), Check.BEYOND);
            Check.due("5: as 6", x.as(kind, 6), Check.BEYOND);
        }
        Check.due("5: block", x.as(6, 0), Check.BEYOND);
        Check.due("5: block", x.as(-1, 0), Check.BEYOND);
        Check.due("5: far", x.as(Integer.MAX_VALUE, Integer.MIN_VALUE), Check.BEYOND);
    }

    private static void holds() {
        DoorCreaks x = new DoorCreaks();
        for (int kind = 0; kind < 6; kind++) {
            x.block(kind, 21, 0, 0);
        }
        int[] stood = {0, 3, 4, 39, 40, 199, 200, 201, 999};
        int[] plain = {21, 21, 22, 30, 31, 70, 71, 71, 71};
        for (int i = 0; i < stood.length; i++) {
            int s = stood[i];
            String by = "6: by " + s;
            Check.due(by, x.holds(0, s), plain[i]);
            Check.due(by, x.holds(1, s), plain[i] + s);
            Check.due(by, x.holds(2, s), plain[i] / 2);
            Check.due(by, x.holds(3, s), 21);
            Check.due(by, x.holds(4, s), (plain[i] + s) * (s >= 40 ? 3 : 1));
            Check.due(by, x.holds(5, s), plain[i] / 2);
        }
        Check.due("6: s -1", x.holds(0, -1), Check.BEYOND);
        Check.due("6: s 1000", x.holds(0, 1000), Check.BEYOND);
        Check.due("6: block", x.holds(6, 0), Check.BEYOND);
        Check.due("6: block", x.holds(-1, 0), Check.BEYOND);
    }

    private static void holdsOfDrops() {
        DoorCreaks x = new DoorCreaks();
        for (int kind = 0; kind < 6; kind++) {
            x.block(kind, 60, 0, 0);
            x.oil(kind, 12);
        }
        int[] due = {60, 60, 18, 60, 60, 6};
        for (int kind = 0; kind < 6; kind++) {
            Check.due("6: 12 drops, kind " + kind, x.holds(kind, 0), due[kind]);
        }
        x.set(5, 4, 20);
        Check.due("6: greased at 0", x.holds(5, 0), 0);
        x.set(2, 4, 30);
        x.set(5, 4, 31);
        Check.due("6: oiled at 0", x.holds(2, 0), 0);
        Check.due("6: greased at 0", x.holds(5, 0), 0);
        x.set(2, 4, 99);
        Check.due("6: oiled stays 0", x.holds(2, 0), 0);
        Check.due("6: oiled by 999", x.holds(2, 999), 0);
    }

    private static void holdsOfLawed() {
        DoorCreaks x = new DoorCreaks();
        x.block(3, 50, 9, 0);
        Check.due("6: lawed without law", x.holds(0, 999), 50);
        Check.law(x, "s*10+b");
        Check.due("6: lawed", x.holds(0, 5), 100);
        Check.due("6: lawed 9999", x.holds(0, 995), 9999);
        Check.due("6: lawed 9999 most", x.holds(0, 999), 9999);
        Check.due("6: as lawed", x.as(0, 3), 50);
        Check.law(x, "5-s");
        Check.due("6: lawed 0 at least", x.holds(0, 6), 0);
        Check.due("6: lawed 0", x.holds(0, 5), 0);
        x.ticks(3);
        Check.due("6: by s, not by its own", x.holds(0, 1), 4);
        Check.due("6: by its own", x.of(0, 8), 2);
        x.plain();
        Check.due("6: lawed without law again", x.holds(0, 999), 50);
    }

    private static void rubs() {
        DoorCreaks x = new DoorCreaks();
        for (int kind = 0; kind < 6; kind++) {
            x.block(kind, 1, 15, 0);
        }
        int[] steps = {0, 1, 14, 15, 16, 991, 992, 993, 999};
        for (int n : steps) {
            String by = "7: by " + n;
            Check.due(by, x.rubs(0, n), n > 15 ? 0 : 15 - n);
            Check.due(by, x.rubs(1, n), 15);
            Check.due(by, x.rubs(2, n), n >= 992 ? 999 : 7 + n);
            Check.due(by, x.rubs(3, n), n > 15 ? 0 : 15 - n);
            Check.due(by, x.rubs(4, n), 15);
            Check.due(by, x.rubs(5, n), n >= 992 ? 999 : 7 + n);
        }
        Check.due("7: n -1", x.rubs(0, -1), Check.BEYOND);
        Check.due("7: n 1000", x.rubs(0, 1000), Check.BEYOND);
        Check.due("7: block", x.rubs(6, 0), Check.BEYOND);
        Check.due("7: block", x.rubs(-1, 0), Check.BEYOND);
    }

    private static void push() {
        DoorCreaks x = new DoorCreaks();
        x.block(0, 999, 0, 0);
        x.ticks(5);
        Check.due("8: stood", x.of(0, 6), 5);
        Check.due("8: far", x.push(0, 10000), Check.BEYOND);
        Check.due("8: far", x.push(0, -10000), Check.BEYOND);
        Check.due("8: block", x.push(1, 0), Check.BEYOND);
        Check.due("8: block", x.push(-1, 0), Check.BEYOND);
        Check.due("8: nothing changed", x.of(0, 6), 5);
        Check.due("8: by nothing", x.push(0, 0), 0);
        Check.due("8: stood", x.of(0, 6), 0);
        Check.due("8: most", x.push(0, 9999), 9999);
        Check.due("8: again", x.push(0, 9999), 19998);
        Check.due("8: back", x.push(0, -9999), 9999);
        Check.due("8: place", x.of(0, 5), 9999);
        Check.due("8: no tick", x.count(1), 5);
    }

    private static void oil() {
        DoorCreaks x = new DoorCreaks();
        x.block(0, 1, 0, 0);
        Check.due("9: none", x.oil(0, 0), Check.BEYOND);
        Check.due("9: far", x.oil(0, 100), Check.BEYOND);
        Check.due("9: far", x.oil(0, Integer.MAX_VALUE), Check.BEYOND);
        Check.due("9: block", x.oil(1, 1), Check.BEYOND);
        Check.due("9: block", x.oil(-1, 1), Check.BEYOND);
        Check.due("9: one", x.oil(0, 1), 1);
        Check.due("9: more", x.oil(0, 97), 98);
        Check.due("9: lost", x.oil(0, 99), 99);
        Check.due("9: kept", x.of(0, 4), 99);
    }

    private static void pace() {
        DoorCreaks x = new DoorCreaks();
        Check.due("10: at first", x.pace(99), 1);
        Check.due("10: far", x.pace(100), Check.BEYOND);
        Check.due("10: far", x.pace(-100), Check.BEYOND);
        Check.due("10: far", x.pace(Integer.MIN_VALUE), Check.BEYOND);
        Check.due("10: least", x.pace(-99), 99);
        Check.due("10: is", x.count(5), -99);
        x.ticks(2);
        Check.due("10: hand", x.count(6), -198);
    }
}
