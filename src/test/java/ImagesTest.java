/** Promises 34 to 38. */
public final class ImagesTest {
    public static void main(String[] args) {
        undo();
        whatIsNotKept();
        tear();
        bookOfBefore();
        count();
        status();
        Check.end();
    }

    private static DoorCreaks example() {
        DoorCreaks x = new DoorCreaks();
        x.block(2, 20, 3, 4);
        x.block(3, 30, 5, 6);
        x.oil(0, 7);
        x.push(1, -40);
        x.pace(9);
        Check.law(x, "b-s");
        x.ticks(12);
        return x;
    }

    private static long[] all(DoorCreaks x) {
        long[] all = new long[80];
        int n = 0;
        for (int b = 0; b < 2; b++) {
            for (int what = 0; what <= 8; what++) {
                all[n++] = x.of(b, what);
            }
            all[n++] = x.noise(b);
            all[n++] = x.says(b);
        }
        for (int i = 0; i < 12; i++) {
            for (int what = 0; what < 3; what++) {
                all[n++] = x.book(i, what);
            }
        }
        for (int c = 0; c < 7; c++) {
            all[n++] = x.counts(c);
        }
        for (int what = 0; what < 8; what++) {
            all[n++] = x.count(what);
        }
        return all;
    }

    private static void change(DoorCreaks x) {
        x.block(5, 1, 0, 9);
        for (int what = 1; what <= 4; what++) {
            x.set(0, what, 50 + what);
        }
        x.push(0, 1234);
        x.push(1, 4321);
        x.pace(-77);
        x.ticks(100);
        Check.law(x, "1");
        x.plain();
    }

    private static void undo() {
        DoorCreaks x = example();
        long[] was = all(x);
        Check.due("34: image", x.image(), 1);
        for (int times = 0; times < 2; times++) {
            change(x);
            Check.due("35: blocks", x.undo(), 2);
            long[] is = all(x);
            for (int i = 0; i < was.length; i++) {
                Check.due("35: as it was, " + i, is[i], was[i]);
            }
        }
        x.block(0, 9, 9, 9);
        Check.due("34: the latest", x.image(), 1);
        x.block(0, 9, 9, 9);
        x.ticks(1);
        x.push(3, 7);
        x.oil(3, 5);
        x.block(0, 9, 9, 0);
        x.ticks(1);
        Check.due("35: the latest", x.undo(), 3);
        Check.due("35: a new block is new", x.block(0, 8, 7, 6), 3);
        int[] due = {0, 8, 7, 6, 0, 0, 0};
        for (int what = 0; what < due.length; what++) {
            Check.due("2: what " + what, x.of(3, what), due[what]);
        }
        DoorCreaks y = new DoorCreaks();
        y.image();
        change(y);
        Check.due("35: no blocks", y.undo(), 0);
        Check.due("35: no blocks", y.count(0), 0);
    }

    private static void whatIsNotKept() {
        DoorCreaks x = example();
        Check.feed(x, "12");
        Check.fill(x, 0, 5);
        x.image();
        Check.feed(x, "3");
        Check.fill(x, 0, 6);
        x.of(9, 9);
        int findings = x.status(-1);
        x.undo();
        Check.due("34: the tape", x.count(4), 3);
        Check.due("34: the sheets", x.write(0, 0, 0), 6);
        Check.due("38: undo takes none back", x.status(-1), findings);
    }

    private static void tear() {
        DoorCreaks x = example();
        Check.due("35: nothing", x.undo(), Check.NONE);
        Check.due("36: nothing", x.tear(), 0);
        x.image();
        Check.due("36: something", x.tear(), 1);
        Check.due("36: no more", x.tear(), 0);
        Check.due("35: torn", x.undo(), Check.NONE);
        Check.due("36: it stays as it is", x.count(1), 12);
        x.image();
        Check.due("34: again", x.undo(), 2);
        Check.due("35: stays", x.undo(), 2);
        Check.due("36: stays", x.tear(), 1);
    }

    private static void bookOfBefore() {
        DoorCreaks x = new DoorCreaks();
        x.block(0, 1, 0, 1);
        x.pace(2);
        x.ticks(100);
        x.ticks(29);
        x.pace(8);
        x.ticks(1);
        x.image();
        x.pace(3);
        x.ticks(50);
        x.undo();
        Check.due("35: ticks", x.count(1), 130);
        Check.due("35: book", x.count(7), 100);
        Check.due("35: the latest", x.book(0, 2), 8);
        Check.due("35: the one ahead of it", x.book(1, 2), 2);
        x.pace(2);
        x.ticks(1);
        Check.due("35: the latest", x.book(0, 2), 2);
        Check.due("35: noise", x.noise(0), 206);
        Check.due("35: counts", x.counts(1), 131);
    }

    private static void count() {
        DoorCreaks x = new DoorCreaks();
        x.block(3, 999, 0, 1);
        x.block(3, 999, 0, 0);
        x.pace(9);
        Check.law(x, "b");
        x.ticks(12);
        Check.feed(x, "12345");
        int[] due = {2, 12, 0, 1, 5, 9, 108, 12};
        for (int what = 0; what < due.length; what++) {
            Check.due("37: what " + what, x.count(what), due[what]);
        }
        Check.due("37: what 8", x.count(8), Check.BEYOND);
        Check.due("37: what -1", x.count(-1), Check.BEYOND);
        Check.due("37: far", x.count(Integer.MIN_VALUE), Check.BEYOND);
        DoorCreaks y = new DoorCreaks();
        y.block(0, 1, 0, 0);
        y.block(0, 1, 0, 1);
        y.push(0, 2);
        y.ticks(3);
        Check.due("37: chattered", y.count(2), 3);
        y.ticks(100);
        Check.due("37: in the book", y.count(7), 100);
        Check.due("37: ever", y.count(1), 103);
    }

    private static void status() {
        DoorCreaks x = new DoorCreaks();
        int[] due = new int[7];
        x.undo();
        x.tone();
        due[3] = 2;
        x.read(0);
        x.draws(1);
        x.write(2, 0, 1);
        due[5] = 3;
        x.sheet(0, 8, -1);
        due[6] = 1;
        for (int i = 0; i < 11; i++) {
            x.block(0, 1, 1, 1);
        }
        due[1] = 1;
        for (int i = 0; i < 4; i++) {
            x.as(0, 1 + i);
        }
        due[2] = 4;
        x.pace(100);
        x.count(8);
        x.noise(10);
        x.write(4, 0, 1);
        x.status(7);
        x.status(-2);
        due[0] = 6;
        x.law();
        for (int which = 0; which < 7; which++) {
            Check.due("38: which " + which, x.status(which), due[which]);
        }
        Check.due("38: all", x.status(-1), 17);
        Check.due("38: another one", x.status(7), Check.BEYOND);
        Check.due("38: counted from then on", x.status(0), 7);
        Check.due("38: far", x.status(Integer.MIN_VALUE), Check.BEYOND);
        Check.due("38: all", x.status(-1), 19);
    }
}
