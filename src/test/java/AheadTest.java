/** Promises 19 to 23. */
public final class AheadTest {
    public static void main(String[] args) {
        ahead();
        from();
        still();
        which();
        together();
        nothingChanges();
        Check.end();
    }

    private static DoorCreaks slipper() {
        DoorCreaks x = new DoorCreaks();
        x.block(0, 5, 2, 1);
        x.pace(3);
        return x;
    }

    private static void ahead() {
        DoorCreaks x = slipper();
        int[] due = {2, 0, 2, 12, 12};
        for (int what = 0; what < due.length; what++) {
            Check.due("19: what " + what, x.ahead(5, what), due[what]);
        }
        Check.due("19: none", x.ahead(1, 0), 0);
        Check.due("19: none", x.ahead(1, 2), 0);
        Check.due("19: none", x.ahead(1, 4), 0);
        Check.due("19: most", x.ahead(60, 0), 30);
        Check.due("19: most", x.ahead(60, 4), 180);
        x.pace(6);
        Check.due("19: even", x.ahead(60, 1), 1);
        x.set(0, 2, 0);
        Check.due("19: a size of 1 is a jump", x.ahead(60, 0), 60);
        Check.due("19: the greatest", x.ahead(60, 2), 1);
        Check.due("19: n 0", x.ahead(0, 0), Check.BEYOND);
        Check.due("19: n 61", x.ahead(61, 0), Check.BEYOND);
        Check.due("19: what -1", x.ahead(1, -1), Check.BEYOND);
        Check.due("19: what 5", x.ahead(1, 5), Check.BEYOND);
        Check.due("19: what far", x.ahead(1, Integer.MAX_VALUE), Check.BEYOND);
        Check.due("19: what far", x.ahead(1, Integer.MIN_VALUE), Check.BEYOND);
        DoorCreaks y = new DoorCreaks();
        Check.due("19: no block", y.ahead(1, 4), Check.BEYOND);
        Check.due("19: no block", y.ahead(1, 3), 0);
        for (int b = 0; b < 10; b++) {
            y.block(0, 999, 0, 0);
            y.push(b, b);
        }
        Check.due("19: the last", y.ahead(1, 13), 9);
        Check.due("19: behind it", y.ahead(1, 14), Check.BEYOND);
    }

    private static void from() {
        DoorCreaks x = slipper();
        Check.due("20: above HOLDS", x.from(1), 6);
        Check.due("20: above HOLDS", x.from(60), 6);
        x.push(0, -6);
        Check.due("20: pulled", x.from(1), 0);
        Check.due("20: but once", x.from(2), 6);
        x.push(0, 12);
        // Drawn from 6 ahead of THE HAND: by 0 it is pulled by 6; then at THE HAND.
        Check.due("20: pulled the other way", x.from(1), 0);
        x.set(0, 1, 99);
        x.push(0, -6);
        Check.due("20: above 99", x.from(1), Check.NONE);
        x.set(0, 1, 98);
        Check.due("20: by 99", x.from(60), 99);
        x.set(0, 3, 0);
        Check.due("20: without a spring", x.from(60), Check.NONE);
        Check.due("20: n 0", x.from(0), Check.BEYOND);
        Check.due("20: n 61", x.from(61), Check.BEYOND);
        Check.due("20: no blocks", new DoorCreaks().from(1), Check.NONE);
        Check.due("20: pace stays", x.count(5), 3);
    }

    private static void still() {
        DoorCreaks x = new DoorCreaks();
        x.pace(0);
        x.block(3, 9, 0, 1);
        x.push(0, -30);
        Check.law(x, "d");
        Check.due("21: the least", x.still(0, 1, 0), 30);
        Check.due("21: of all", x.still(0, 60, 0), 30);
        Check.due("21: m", x.still(0, 60, 1), 0);
        x.push(0, -69);
        Check.due("21: most", x.still(0, 60, 0), 99);
        x.push(0, -1);
        Check.due("21: above", x.still(0, 60, 0), Check.NONE);
        Check.due("21: drops stay", x.of(0, 4), 0);
        Check.law(x, "d*9");
        x.oil(0, 50);
        Check.due("21: not from those it has on", x.still(0, 60, 0), 12);
        Check.due("21: m 400", x.still(0, 60, 400), 0);
        x.push(0, 100);
        x.pace(4);
        Check.law(x, "10");
        Check.due("21: holds for two", x.still(0, 2, 0), 0);
        Check.due("21: not for three", x.still(0, 3, 0), Check.NONE);
        Check.due("21: block", x.still(1, 1, 0), Check.BEYOND);
        Check.due("21: block", x.still(-1, 1, 0), Check.BEYOND);
        Check.due("21: n 0", x.still(0, 0, 0), Check.BEYOND);
        Check.due("21: n 61", x.still(0, 61, 0), Check.BEYOND);
        Check.due("21: m -1", x.still(0, 1, -1), Check.BEYOND);
        Check.due("21: m 401", x.still(0, 1, 401), Check.BEYOND);
    }

    private static void which() {
        DoorCreaks x = new DoorCreaks();
        x.pace(0);
        x.block(0, 10, 2, 1);
        x.push(0, -7);
        // HOLDS: 5 as OILED and GREASED, else 10. These go by 6 (RUBS 1), then are held by 1 + 6.
        Check.fill(x, 0, 0);
        Check.due("22: hold", x.which(0, 0), 1 + 2 + 8 + 16);
        Check.fill(x, 0, 1);
        Check.due("22: slip", x.which(0, 0), 4 + 32);
        Check.fill(x, 0, 1, 0, 0);
        Check.due("22: slip and stand", x.which(0, 0), 4 + 32);
        Check.fill(x, 0, 1, 1);
        Check.due("22: none", x.which(0, 0), 0);
        Check.fill(x, 0, 1L << 32);
        Check.due("22: a long", x.which(0, 0), 0);
        Check.fill(x, 0, 0);
        Check.law(x, "6");
        Check.due("22: a law", x.which(0, 0), 1 + 2 + 16);
        x.set(0, 4, 1);
        x.push(0, 3);
        // PULL 4: HOLDS 4 as OILED, 3 as GREASED.
        Check.due("22: drops", x.which(0, 0), 31);
        x.push(0, -3);
        x.set(0, 1, 1);
        x.set(0, 2, 9);
        x.pace(1);
        Check.fill(x, 0, new long[40]);
        Check.due("22: 40 numbers", x.which(0, 0), 0);
        Check.due("22: kind stays", x.of(0, 0), 0);
        Check.due("22: block", x.which(1, 0), Check.BEYOND);
        Check.due("22: block", x.which(-1, 0), Check.BEYOND);
        Check.due("22: sheet", x.which(0, 4), Check.BEYOND);
        Check.due("22: sheet", x.which(0, -1), Check.BEYOND);
        Check.due("22: missing", x.which(0, 1), Check.MISSING);
        Check.due("22: the last sheet", x.which(0, 3), Check.MISSING);
        Check.due("22: block ahead of missing", x.which(1, 1), Check.BEYOND);
        x.sheet(1, 8, 0);
        Check.due("22: none", x.which(0, 1), Check.SIZE);
    }

    private static void together() {
        DoorCreaks x = new DoorCreaks();
        x.block(0, 5, 0, 1);
        x.block(0, 3, 0, 0);
        x.block(0, 1, 0, 0);
        x.block(0, 5, 0, 0);
        x.pace(6);
        Check.due("23: only one moves", x.together(0, 1, 60), 0);
        x.set(2, 3, 1);
        x.push(2, 4);
        // BLOCKS 1 and 2, 4 apart, change places in each TICK.
        Check.due("23: each tick", x.together(1, 2, 60), 60);
        Check.due("23: one tick", x.together(1, 2, 1), 1);
        Check.due("23: each tick", x.together(2, 0, 7), 7);
        Check.due("23: never", x.together(3, 0, 60), 0);
        x.pace(3);
        Check.due("23: each second", x.together(0, 2, 7), 3);
        Check.due("23: the same", x.together(1, 1, 1), Check.BEYOND);
        Check.due("23: a", x.together(4, 1, 1), Check.BEYOND);
        Check.due("23: a", x.together(-1, 1, 1), Check.BEYOND);
        Check.due("23: b", x.together(1, 4, 1), Check.BEYOND);
        Check.due("23: b", x.together(1, -1, 1), Check.BEYOND);
        Check.due("23: n 0", x.together(0, 1, 0), Check.BEYOND);
        Check.due("23: n 61", x.together(0, 1, 61), Check.BEYOND);
    }

    private static void nothingChanges() {
        DoorCreaks x = slipper();
        x.block(5, 30, 5, 4);
        x.block(3, 30, 5, 4);
        x.oil(1, 20);
        Check.law(x, "b+s-d*p");
        Check.fill(x, 0, 1, 2, 3);
        x.ticks(11);
        x.image();
        x.ticks(13);
        long[] was = all(x);
        x.ahead(60, 3);
        x.from(60);
        x.still(1, 60, 0);
        x.which(2, 0);
        x.together(0, 2, 60);
        long[] is = all(x);
        for (int i = 0; i < was.length; i++) {
            Check.due("19 to 23: nothing changes, " + i, is[i], was[i]);
        }
        int next = x.ahead(1, 3);
        x.ticks(1);
        Check.due("19: as it comes", x.book(0, 2), next);
    }

    private static long[] all(DoorCreaks x) {
        long[] all = new long[400];
        int n = 0;
        for (int b = 0; b < 3; b++) {
            for (int what = 0; what <= 8; what++) {
                all[n++] = x.of(b, what);
            }
            all[n++] = x.noise(b);
        }
        for (int i = 0; i < 24; i++) {
            for (int what = 0; what < 3; what++) {
                all[n++] = x.book(i, what);
            }
        }
        for (int c = 0; c < 7; c++) {
            all[n++] = x.counts(c);
        }
        for (int what = 0; what < 8; what++) {
            all[n++] = x.count(what);
        }
        return all;
    }
}
