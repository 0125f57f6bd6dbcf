/** Promises 11 to 18, and section 2 of the document. */
public final class TicksTest {
    public static void main(String[] args) {
        slips();
        stepsAreCut();
        shared();
        allAtOnce();
        rubsBySteps();
        chatters();
        stoodAndDrops();
        until();
        book();
        counts();
        power();
        tone();
        great();
        noise();
        Check.end();
    }

    /** One BLOCK that slips in each second TICK, in two ROUNDS (4 and 2 STEPS). */
    private static DoorCreaks slipper() {
        DoorCreaks x = new DoorCreaks();
        x.block(0, 5, 2, 1);
        x.pace(3);
        return x;
    }

    /** One BLOCK that comes to THE HAND in one ROUND of each TICK. */
    private static DoorCreaks follower() {
        DoorCreaks x = new DoorCreaks();
        x.block(0, 1, 0, 1);
        x.pace(5);
        return x;
    }

    /** Two BLOCKS, 2 apart, that change their places 40 times. */
    private static DoorCreaks chatterer() {
        DoorCreaks x = new DoorCreaks();
        x.block(0, 1, 0, 0);
        x.block(0, 1, 0, 1);
        x.push(0, 2);
        return x;
    }

    private static void slips() {
        DoorCreaks x = slipper();
        Check.due("11: holds", x.ticks(1), 0);
        Check.due("11: place", x.of(0, 5), 0);
        Check.due("11: stood", x.of(0, 6), 1);
        Check.due("11: slips", x.ticks(1), 2);
        Check.due("11: place", x.of(0, 5), 6);
        Check.due("11: stood", x.of(0, 6), 0);
        Check.due("11: noise", x.book(0, 2), 6);
        Check.due("11: last one", x.ticks(3), 0);
        Check.due("11: last one", x.ticks(1), 2);
        Check.due("11: ever", x.count(1), 6);
        Check.due("11: none", x.ticks(0), Check.BEYOND);
        Check.due("11: far", x.ticks(101), Check.BEYOND);
        Check.due("11: far", x.ticks(-1), Check.BEYOND);
        Check.due("11: far", x.ticks(Integer.MAX_VALUE), Check.BEYOND);
        Check.due("11: ever", x.count(1), 6);
        Check.due("11: most", x.ticks(100), 2);
        Check.due("11: hand", x.count(6), 318);
        DoorCreaks y = follower();
        y.pace(0);
        y.push(0, -1);
        Check.due("11: as much as HOLDS is not above", y.ticks(1), 0);
        y.push(0, -1);
        Check.due("11: above", y.ticks(1), 1);
        Check.due("11: no blocks", new DoorCreaks().ticks(100), 0);
    }

    private static void stepsAreCut() {
        DoorCreaks x = new DoorCreaks();
        x.pace(0);
        x.block(1, 1, 4, 3);
        x.push(0, -5);
        // PULL 15: (15 - 4) / 3 = 3, PULL 6: 2 / 3, so 1; PULL 3 is not above 4.
        Check.due("11: rounds", x.ticks(1), 2);
        Check.due("11: cut", x.of(0, 5), -1);
        x.push(0, 1);
        x.push(0, 5);
        x.ticks(1);
        Check.due("11: cut, the other way", x.of(0, 5), 1);
        DoorCreaks y = new DoorCreaks();
        y.pace(0);
        y.block(1, 1, 99, 1);
        y.push(0, 50);
        // Slips by HOLDS 1, though RUBS 99 are more than PULL 50: by 1.
        Check.due("11: one at least", y.ticks(1), 1);
        Check.due("11: one at least", y.of(0, 5), 49);
        DoorCreaks z = new DoorCreaks();
        z.pace(0);
        z.block(1, 1, 0, 1);
        z.push(0, -2500);
        Check.due("11: 999 at most", z.ticks(1), 3);
        Check.due("11: noise", z.book(0, 2), 2500);
    }

    private static void shared() {
        DoorCreaks x = new DoorCreaks();
        x.pace(0);
        x.block(1, 1, 0, 2);
        x.block(0, 999, 0, 3);
        x.push(0, 100);
        // PULL of 0 -500 by both springs, 5: to 0. BLOCK 1 holds (PULL 300).
        Check.due("11: both springs", x.ticks(1), 1);
        Check.due("11: both springs", x.of(0, 5), 0);
        Check.due("11: the other holds", x.of(1, 5), 0);
        x.push(1, 50);
        // PULL of 0 is 150, by 5: 30; PULL of 1 -60.
        x.ticks(1);
        Check.due("11: one behind pulls", x.of(0, 5), 30);
        Check.due("11: wide", x.book(0, 1), 1);
    }

    private static void allAtOnce() {
        DoorCreaks x = new DoorCreaks();
        x.block(1, 1, 0, 1);
        x.block(1, 1, 0, 1);
        x.pace(8);
        x.set(0, 2, 1);
        x.set(1, 2, 1);
        // RUBS 1: round 1: 7/2 = 3. Round 2: 0: 5-3 = 2 above 1: 1/2, so 1, to 4; 1: 3: holds 1, 2/1 to 2.
        // Round 3: 0: 4-2 = 2: 1 to 5; 1: 2: 1 to 3. Round 4: 0: 3-2 = 1 no; 1: 2: 1 to 4.
        // Round 5: 0: 3-1 = 2: 1 to 6; 1: 1 no. Round 6: 0: 2-2 = 0; 1: 2: 1 to 5. Round 7: 0: 2-1 = 1; 1: 1. End.
        Check.due("11: size", x.ticks(1), 8);
        Check.due("11: first", x.of(0, 5), 6);
        Check.due("11: second", x.of(1, 5), 5);
        Check.due("11: noise", x.book(0, 2), 11);
        Check.due("11: wide", x.book(0, 1), 3);
    }

    private static void rubsBySteps() {
        DoorCreaks x = new DoorCreaks();
        x.pace(0);
        x.block(2, 2, 20, 1);
        x.push(0, -50);
        // OILED: RUBS 10: 40 to -10; then RUBS 10 + 40 hold it. BLOCK: RUBS 20: 30 to -20, then 0: 20 to 0.
        Check.due("11: oiled", x.ticks(1), 1);
        Check.due("11: oiled", x.of(0, 5), -10);
        DoorCreaks y = new DoorCreaks();
        y.pace(0);
        y.block(0, 2, 20, 1);
        y.push(0, -50);
        Check.due("11: block", y.ticks(1), 2);
        Check.due("11: block", y.of(0, 5), 0);
        DoorCreaks z = new DoorCreaks();
        z.pace(0);
        z.block(1, 2, 20, 1);
        z.push(0, -50);
        Check.due("11: rusty", z.ticks(1), 1);
        Check.due("11: rusty", z.of(0, 5), -20);
    }

    private static void chatters() {
        DoorCreaks x = chatterer();
        Check.due("11: chatters", x.ticks(1), 80);
        Check.due("11: chattered", x.count(2), 1);
        Check.due("11: noise", x.book(0, 2), 160);
        Check.due("11: place", x.of(0, 5), 2);
        Check.due("11: place", x.of(1, 5), 0);
        Check.due("11: again", x.ticks(5), 80);
        Check.due("11: chattered", x.count(2), 6);
        DoorCreaks y = standing();
        tickOfSize(y, 39);
        Check.due("11: none moves in the 40th", y.count(2), 0);
        tickOfSize(y, 40);
        Check.due("11: at THE HAND, but behind 40", y.of(0, 5), 0);
        Check.due("11: behind 40", y.count(2), 1);
    }

    private static void stoodAndDrops() {
        DoorCreaks x = follower();
        x.block(0, 999, 999, 0);
        x.set(0, 4, 2);
        x.set(1, 4, 2);
        int[] left = {1, 0, 0};
        for (int drops : left) {
            x.ticks(1);
            Check.due("11: wears off", x.of(0, 4), drops);
            Check.due("11: stays", x.of(1, 4), 2);
        }
        Check.due("11: stood", x.of(1, 6), 3);
        for (int i = 0; i < 9; i++) {
            x.ticks(100);
        }
        x.ticks(95);
        Check.due("11: stood", x.of(1, 6), 998);
        x.ticks(1);
        Check.due("11: stood", x.of(1, 6), 999);
        x.ticks(100);
        Check.due("11: 999 at most", x.of(1, 6), 999);
        Check.due("11: moved", x.of(0, 6), 0);
    }

    private static void until() {
        DoorCreaks x = slipper();
        Check.due("12: second", x.until(1, 100), 2);
        Check.due("12: second again", x.until(2, 2), 2);
        Check.due("12: not ahead of it", x.until(1, 1), 1);
        Check.due("12: at once", x.until(1, 100), 1);
        Check.due("12: never", x.until(3, 10), 10);
        Check.due("12: ever", x.count(1), 16);
        Check.due("12: m", x.until(0, 1), Check.BEYOND);
        Check.due("12: m", x.until(401, 1), Check.BEYOND);
        Check.due("12: n", x.until(1, 0), Check.BEYOND);
        Check.due("12: n", x.until(1, 101), Check.BEYOND);
        Check.due("12: far", x.until(Integer.MIN_VALUE, Integer.MAX_VALUE), Check.BEYOND);
        Check.due("12: ever", x.count(1), 16);
        Check.due("12: most", x.until(400, 100), 100);
    }

    private static void book() {
        DoorCreaks x = slipper();
        Check.due("13: empty", x.book(0, 0), Check.BEYOND);
        x.ticks(2);
        int[][] due = {{2, 1, 6}, {0, 0, 0}};
        for (int i = 0; i < 2; i++) {
            for (int what = 0; what < 3; what++) {
                Check.due("13: " + i + " " + what, x.book(i, what), due[i][what]);
            }
        }
        Check.due("13: i 2", x.book(2, 0), Check.BEYOND);
        Check.due("13: i -1", x.book(-1, 0), Check.BEYOND);
        Check.due("13: what 3", x.book(0, 3), Check.BEYOND);
        Check.due("13: what -1", x.book(0, -1), Check.BEYOND);
        x.ticks(98);
        Check.due("13: the first", x.book(99, 0), 0);
        Check.due("13: the second", x.book(98, 0), 2);
        x.ticks(1);
        Check.due("13: the first is gone", x.book(99, 0), 2);
        Check.due("13: 100 at most", x.book(100, 0), Check.BEYOND);
        Check.due("13: 100 at most", x.count(7), 100);
        Check.due("13: far", x.book(Integer.MAX_VALUE, 0), Check.BEYOND);
        Check.due("13: ever", x.count(1), 101);
    }

    /** A TICK with a SIZE of n: a BLOCK of GO 0 that goes n times 999 STEPS to THE HAND. */
    private static void tickOfSize(DoorCreaks x, int n) {
        int way = -999 * n;
        while (way < 0) {
            int part = Math.max(-9999, way);
            x.push(0, part);
            way -= part;
        }
        Check.due("a tick of size " + n, x.ticks(1), n);
    }

    private static DoorCreaks standing() {
        DoorCreaks x = new DoorCreaks();
        x.block(0, 1, 0, 1);
        x.pace(0);
        return x;
    }

    private static void counts() {
        DoorCreaks x = standing();
        int[] sizes = {0, 1, 2, 3, 4, 7, 8, 15, 16, 31, 32, 39, 40, 0};
        for (int n : sizes) {
            tickOfSize(x, n);
        }
        int[] due = {2, 1, 2, 2, 2, 2, 3};
        for (int c = 0; c < 7; c++) {
            Check.due("14: class " + c, x.counts(c), due[c]);
        }
        Check.due("14: class 7", x.counts(7), Check.BEYOND);
        Check.due("14: class -1", x.counts(-1), Check.BEYOND);
        Check.due("14: far", x.counts(Integer.MIN_VALUE), Check.BEYOND);
        x.ticks(100);
        x.ticks(50);
        Check.due("14: ever, not of the book", x.counts(0), 152);
        Check.due("14: ever, not of the book", x.counts(6), 3);
    }

    private static void power() {
        Check.due("15: at first", new DoorCreaks().power(), 1);
        DoorCreaks x = standing();
        int[] sizes = {1, 2, 4, 8, 16};
        for (int n : sizes) {
            tickOfSize(x, n);
            Check.due("15: even, though above CLASS 0", x.power(), 1);
        }
        tickOfSize(x, 32);
        Check.due("15: all alike", x.power(), 1);
        tickOfSize(x, 32);
        Check.due("15: the last one rises", x.power(), 0);
        int[] more = {16, 8, 4, 2};
        for (int n : more) {
            tickOfSize(x, n);
            Check.due("15: another one rises", x.power(), 0);
        }
        tickOfSize(x, 1);
        Check.due("15: alike again", x.power(), 1);
        tickOfSize(x, 2);
        Check.due("15: CLASS 2 above 1", x.power(), 0);
    }

    private static void tone() {
        DoorCreaks x = standing();
        Check.due("16: empty", x.tone(), Check.NONE);
        tickOfSize(x, 1);
        Check.due("16: one", x.tone(), Check.NONE);
        tickOfSize(x, 2);
        Check.due("16: next", x.tone(), 1);
        x.ticks(6);
        Check.due("16: of the latest", x.tone(), 1);
        tickOfSize(x, 3);
        Check.due("16: from one to the other", x.tone(), 7);
        x.ticks(92);
        Check.due("16: in the book", x.tone(), 7);
        x.ticks(1);
        Check.due("16: the book's last", x.tone(), Check.NONE);
        Check.due("16: counted", x.status(3), 3);
        x.ticks(100);
        tickOfSize(x, 1);
        Check.due("16: not with itself", x.tone(), Check.NONE);
    }

    private static void great() {
        DoorCreaks x = standing();
        int[] sizes = {5, 3, 0, 4, 4, 1, 5};
        for (int n : sizes) {
            tickOfSize(x, n);
        }
        int[] great = {6, 5, 5, 4, 2, 0};
        int[] warned = {4, 3, 3, 2, 1, 0};
        for (int m = 1; m <= 6; m++) {
            Check.due("17: great " + m, x.great(m, 0), great[m - 1]);
            Check.due("17: warned " + m, x.great(m, 1), warned[m - 1]);
        }
        Check.due("17: most", x.great(400, 0), 0);
        Check.due("17: m 0", x.great(0, 0), Check.BEYOND);
        Check.due("17: m 401", x.great(401, 0), Check.BEYOND);
        Check.due("17: what 2", x.great(1, 2), Check.BEYOND);
        Check.due("17: what -1", x.great(1, -1), Check.BEYOND);
        x.ticks(94);
        Check.due("17: the first is gone", x.great(5, 0), 1);
        Check.due("17: none ahead of 3", x.great(3, 0), 4);
        Check.due("17: none ahead of 3", x.great(3, 1), 2);
        x.ticks(99);
        Check.due("17: none is left", x.great(1, 0), 0);
        tickOfSize(x, 1);
        x.ticks(98);
        tickOfSize(x, 1);
        Check.due("17: the first has none ahead", x.great(1, 0), 2);
        Check.due("17: the first has none ahead", x.great(1, 1), 0);
        DoorCreaks y = chatterer();
        y.ticks(3);
        Check.due("17: 80", y.great(80, 0), 3);
        Check.due("17: 80", y.great(80, 1), 2);
        Check.due("17: 81", y.great(81, 0), 0);
    }

    private static void noise() {
        DoorCreaks x = follower();
        x.block(0, 9, 0, 0);
        x.block(0, 9, 0, 1);
        x.ticks(3);
        Check.due("18: followed", x.noise(0), 15);
        Check.due("18: stood", x.noise(1), 0);
        x.push(2, 100);
        // BLOCKS 1 and 2 change their places 40 times: 2 * 40 * 100, and 5 of BLOCK 0.
        x.ticks(1);
        Check.due("18: all of these ticks", x.noise(1), 8005);
        Check.due("18: all of these ticks", x.noise(2), 8005);
        Check.due("18: of four", x.noise(0), 8020);
        Check.due("18: block", x.noise(3), Check.BEYOND);
        Check.due("18: block", x.noise(-1), Check.BEYOND);
        Check.due("18: far", x.noise(32), Check.BEYOND);
        Check.due("18: empty", chatterer().noise(1), 0);
        x.pace(0);
        x.set(2, 3, 0);
        x.ticks(98);
        Check.due("18: in the book", x.noise(0), 8010);
        x.ticks(1);
        Check.due("18: in the book", x.noise(0), 8005);
        x.ticks(1);
        Check.due("18: gone", x.noise(0), 0);
    }
}
