/** Promises 29 to 33. */
public final class SheetsTest {
    public static void main(String[] args) {
        sheet();
        write();
        copy();
        copyOnItself();
        draws();
        read();
        Check.end();
    }

    private static void sheet() {
        DoorCreaks x = new DoorCreaks();
        int[] bits = {8, 16, 64};
        for (int b : bits) {
            Check.due("29: " + b, x.sheet(0, b, 40), 40);
            Check.due("29: first", x.write(0, 0, 1), 0);
            Check.due("29: last", x.write(0, 39, 1), 0);
            Check.due("29: new again", x.sheet(0, b, 40), 40);
            Check.due("29: all 0", x.write(0, 0, 1), 0);
            Check.due("29: all 0", x.write(0, 39, 1), 0);
            Check.due("29: 0 numbers", x.sheet(0, b, 0), 0);
            Check.due("29: is there", x.read(0), 0);
        }
        Check.due("29: missing", x.sheet(0, 0, 40), 0);
        Check.due("29: missing", x.read(0), Check.MISSING);
        Check.due("29: the last sheet", x.sheet(3, 8, 1), 1);
        Check.due("29: sheet 4", x.sheet(4, 8, 1), Check.BEYOND);
        Check.due("29: sheet -1", x.sheet(-1, 8, 1), Check.BEYOND);
        int[] wrong = {-8, 1, 7, 9, 15, 17, 32, 63, 65, Integer.MIN_VALUE};
        for (int b : wrong) {
            Check.due("29: bits " + b, x.sheet(3, b, -1), Check.BEYOND);
        }
        Check.due("29: size", x.sheet(3, 8, -1), Check.SIZE);
        Check.due("29: size", x.sheet(3, 0, -1), Check.SIZE);
        Check.due("29: size", x.sheet(3, 0, Integer.MIN_VALUE), Check.SIZE);
        Check.due("29: sheet ahead of size", x.sheet(4, 8, -1), Check.BEYOND);
        Check.due("29: n 41", x.sheet(3, 8, 41), Check.BEYOND);
        Check.due("29: n 41", x.sheet(3, 0, 41), Check.BEYOND);
        Check.due("29: n far", x.sheet(3, 64, Integer.MAX_VALUE), Check.BEYOND);
        Check.due("29: stays", x.write(3, 0, 0), 0);
    }

    private static void write() {
        DoorCreaks x = new DoorCreaks();
        Check.due("30: missing", x.write(0, 0, 1), Check.MISSING);
        Check.due("30: missing ahead of number", x.write(0, -1, 1), Check.MISSING);
        Check.due("30: sheet", x.write(4, 0, 1), Check.BEYOND);
        Check.due("30: sheet", x.write(-1, 0, 1), Check.BEYOND);
        x.sheet(0, 8, 2);
        x.sheet(1, 16, 2);
        x.sheet(2, 64, 2);
        long[] written = {127, 128, 255, 256, -129, 32768, 65535, -32769, Long.MIN_VALUE, Long.MAX_VALUE};
        long[] of8 = {127, -128, -1, 0, 127, 0, -1, -1, 0, -1};
        long[] of16 = {127, 128, 255, 256, -129, -32768, -1, 32767, 0, -1};
        for (int i = 0; i < written.length; i++) {
            for (int s = 0; s < 3; s++) {
                x.write(s, 1, written[i]);
                long due = s == 0 ? of8[i] : s == 1 ? of16[i] : written[i];
                Check.due("30: " + written[i] + " on sheet " + s, x.write(s, 1, 0), due);
                Check.due("30: the other", x.write(s, 0, 0), 0);
            }
        }
        Check.due("30: number 2", x.write(0, 2, 1), Check.BEYOND);
        Check.due("30: number -1", x.write(0, -1, 1), Check.BEYOND);
        x.sheet(0, 8, 0);
        Check.due("30: no number", x.write(0, 0, 1), Check.BEYOND);
    }

    private static void copy() {
        DoorCreaks x = new DoorCreaks();
        x.sheet(0, 16, 5);
        x.sheet(1, 16, 3);
        x.sheet(2, 8, 3);
        for (int i = 0; i < 5; i++) {
            x.write(0, i, 100 + i);
        }
        Check.due("31: copy", x.copy(0, 2, 1, 1, 2), 2);
        long[] due = {0, 102, 103};
        for (int i = 0; i < 3; i++) {
            Check.due("31: number " + i, x.write(1, i, due[i]), due[i]);
        }
        Check.due("31: all", x.copy(1, 0, 0, 2, 3), 3);
        Check.due("31: none", x.copy(0, 5, 1, 3, 0), 0);
        Check.due("31: none, too far", x.copy(0, 6, 1, 3, 0), Check.BEYOND);
        Check.due("31: none, too far", x.copy(0, 5, 1, 4, 0), Check.BEYOND);
        Check.due("31: from too far", x.copy(0, 4, 1, 0, 2), Check.BEYOND);
        Check.due("31: to too far", x.copy(0, 0, 1, 2, 2), Check.BEYOND);
        Check.due("31: too many", x.copy(0, 0, 1, 0, 4), Check.BEYOND);
        Check.due("31: from -1", x.copy(0, -1, 1, 0, 1), Check.BEYOND);
        Check.due("31: to -1", x.copy(0, 0, 1, -1, 1), Check.BEYOND);
        Check.due("31: n -1", x.copy(0, 1, 1, 1, -1), Check.BEYOND);
        int far = Integer.MAX_VALUE;
        Check.due("31: far", x.copy(0, far, 1, 0, far), Check.BEYOND);
        Check.due("31: far", x.copy(0, 1, 1, 0, far), Check.BEYOND);
        Check.due("31: far", x.copy(0, Integer.MIN_VALUE, 1, Integer.MIN_VALUE, Integer.MIN_VALUE), Check.BEYOND);
        Check.due("31: kind", x.copy(0, 0, 2, 0, 1), Check.KIND);
        Check.due("31: kind ahead of beyond", x.copy(0, -1, 2, -1, -1), Check.KIND);
        Check.due("31: missing", x.copy(0, 0, 3, 0, 1), Check.MISSING);
        Check.due("31: missing", x.copy(3, -1, 2, 0, 1), Check.MISSING);
        Check.due("31: sheet", x.copy(4, 0, 3, 0, 1), Check.BEYOND);
        Check.due("31: sheet", x.copy(-1, 0, 3, 0, 1), Check.BEYOND);
        Check.due("31: sheet", x.copy(0, 0, 4, 0, 1), Check.BEYOND);
        Check.due("31: sheet", x.copy(0, 0, -1, 0, 1), Check.BEYOND);
        Check.due("31: sheet", x.copy(3, 0, -1, 0, 1), Check.BEYOND);
        long[] is = {100, 101, 0, 102, 103};
        for (int i = 0; i < 5; i++) {
            Check.due("31: number " + i, x.write(0, i, 0), is[i]);
        }
    }

    private static void copyOnItself() {
        DoorCreaks x = new DoorCreaks();
        Check.fill(x, 0, 1, 2, 3, 4, 5, 6);
        Check.due("31: ahead", x.copy(0, 0, 0, 2, 4), 4);
        long[] ahead = {1, 2, 1, 2, 3, 4};
        for (int i = 0; i < 6; i++) {
            Check.due("31: as they all were " + i, x.write(0, i, i), ahead[i]);
        }
        Check.due("31: back", x.copy(0, 2, 0, 0, 4), 4);
        long[] back = {2, 3, 4, 5, 4, 5};
        for (int i = 0; i < 6; i++) {
            Check.due("31: as they all were " + i, x.write(0, i, 0), back[i]);
        }
    }

    private static void draws() {
        DoorCreaks x = new DoorCreaks();
        x.block(0, 5, 0, 1);
        x.pace(7);
        Check.fill(x, 0, 3, 99, -99, 100, -100, 0, Long.MAX_VALUE, 1L << 32, -3, Long.MIN_VALUE);
        Check.due("32: ticks", x.draws(0), 5);
        Check.due("32: hand", x.count(6), 0);
        Check.due("32: pace", x.count(5), 7);
        Check.due("32: ever", x.count(1), 5);
        int[] noises = {0, 0, 99, 102, 0};
        for (int i = 0; i < 5; i++) {
            Check.due("32: noise " + i, x.book(i, 2), noises[i]);
        }
        x.sheet(1, 8, 2);
        x.write(1, 0, 200);
        x.write(1, 1, 156 + 57);
        Check.due("32: of 8 bits", x.draws(1), 2);
        Check.due("32: of 8 bits", x.count(6), -56 - 43);
        x.sheet(1, 8, 0);
        Check.due("32: none", x.draws(1), 0);
        Check.due("32: the last sheet", x.draws(3), Check.MISSING);
        Check.due("32: missing", x.draws(2), Check.MISSING);
        Check.due("32: sheet", x.draws(4), Check.BEYOND);
        Check.due("32: sheet", x.draws(-1), Check.BEYOND);
        DoorCreaks y = new DoorCreaks();
        y.block(3, 5, 0, 1);
        Check.law(y, "9-p");
        Check.fill(y, 0, 4, 5);
        // THE LAW is asked by the PACE drawn: PULL 4 by 5 holds, PULL 9 by 4 doesn't.
        y.draws(0);
        Check.due("32: by the pace drawn", y.book(1, 0), 0);
        Check.due("32: by the pace drawn", y.book(0, 0), 1);
    }

    private static void read() {
        DoorCreaks x = new DoorCreaks();
        Check.due("33: missing", x.read(0), Check.MISSING);
        Check.due("33: sheet", x.read(4), Check.BEYOND);
        Check.due("33: sheet", x.read(-1), Check.BEYOND);
        Check.fill(x, 0, 0);
        Check.due("33: no block", x.read(0), 1);
        for (int b = 0; b < 3; b++) {
            x.block(0, 999, 0, 0);
            x.push(b, 10 - 20 * b);
        }
        Check.fill(x, 0, 10, -10, -30);
        Check.due("33: all", x.read(0), 0);
        Check.fill(x, 0, 10, -10);
        Check.due("33: as many as there are", x.read(0), 0);
        Check.fill(x, 0, 10, -10, -30, 0);
        Check.due("33: stands for no block", x.read(0), 4);
        Check.fill(x, 0, 10, 10, 30, 0);
        Check.due("33: the first", x.read(0), 2);
        Check.fill(x, 0, 10, -10, 30);
        Check.due("33: the last", x.read(0), 3);
        Check.fill(x, 0, 10 + (1L << 32));
        Check.due("33: a long", x.read(0), 1);
        x.sheet(0, 8, 0);
        Check.due("33: none", x.read(0), 0);
        x.sheet(0, 8, 2);
        x.write(0, 0, 10);
        x.write(0, 1, -10);
        Check.due("33: of 8 bits", x.read(0), 0);
    }
}
