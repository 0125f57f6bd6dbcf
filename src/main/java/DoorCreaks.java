/**
 * A door that creaks: blocks in a row on springs, one end of which is drawn at a pace.
 * The words here are those of the document, ../shared/DOC.md.
 */
public final class DoorCreaks {
    private static final int BEYOND = -1000000001;
    private static final int FULL = -1000000002;
    private static final int KIND = -1000000003;
    private static final int NONE = -1000000004;
    private static final int MISSING = -1000000006;
    private static final int SIZE = -1000000007;
    private static final int FINDINGS = 7;

    private static final int MOST_BLOCKS = 10;
    private static final int MOST_HOLD = 999;
    private static final int MOST_GO = 999;
    private static final int MOST_STIFF = 99;
    private static final int MOST_DROPS = 99;
    private static final int MOST_STOOD = 999;
    private static final int MOST_STEPS = 999;
    private static final int MOST_PUSH = 9999;
    private static final int MOST_PACE = 99;
    private static final int MOST_LAWED = 9999;
    private static final int MOST_ROUNDS = 40;
    private static final int MOST_SIZE = MOST_ROUNDS * MOST_BLOCKS;
    private static final int MOST_TICKS = 100;
    private static final int MOST_AHEAD = 60;
    private static final int BOOK_TICKS = 100;
    private static final int CLASSES = 7;
    private static final int MOST_BYTES = 60;
    private static final int MOST_OPEN = 5;
    private static final int SHEETS = 4;
    private static final int MOST_NUMBERS = 40;

    private static final int BLOCK = 0;
    private static final int RUSTY = 1;
    private static final int OILED = 2;
    private static final int LAWED = 3;
    private static final int SEIZED = 4;
    private static final int GREASED = 5;
    private static final int KINDS = 6;
    /** The KIND that each KIND is under; -1 for BLOCK, which is under none. */
    private static final int[] UNDER = {-1, BLOCK, BLOCK, BLOCK, RUSTY, OILED};

    private final Row live = new Row();
    private final Row kept = new Row();
    /** Made once for all TICKS AHEAD, as what is made in a call is never given back. */
    private final Row trial = new Row();
    private final Book book = new Book();
    private final Book keptBook = new Book();
    private boolean isKept = false;
    private final Text tape = new Text();
    private final Sheet[] sheets = new Sheet[SHEETS];
    private final int[] found = new int[FINDINGS];

    public DoorCreaks() {
        for (int s = 0; s < SHEETS; s++) {
            sheets[s] = new Sheet();
        }
    }

    // ---- blocks

    public int block(int kind, int hold, int go, int stiff) {
        if (!within(kind, 0, KINDS - 1) || !within(hold, 1, MOST_HOLD)
                || !within(go, 0, MOST_GO) || !within(stiff, 0, MOST_STIFF)) {
            return finding(BEYOND);
        }
        if (live.length >= MOST_BLOCKS) {
            return finding(FULL);
        }
        int number = live.length;
        live.blocks[number].begin(kind, hold, go, stiff);
        live.length++;
        return number;
    }

    public int of(int block, int what) {
        if (!live.has(block)) {
            return finding(BEYOND);
        }
        Block it = live.blocks[block];
        switch (what) {
            case 0: return it.kind;
            case 1: return it.hold;
            case 2: return it.go;
            case 3: return it.stiff;
            case 4: return it.drops;
            case 5: return it.place;
            case 6: return it.stood;
            case 7: return live.pullOf(block);
            case 8: return live.holdsOf(block, it.stood);
            default: return finding(BEYOND);
        }
    }

    public int set(int block, int what, int v) {
        if (!live.has(block) || !canBecome(what, v)) {
            return finding(BEYOND);
        }
        Block it = live.blocks[block];
        int was;
        switch (what) {
            case 1:
                was = it.hold;
                it.hold = v;
                return was;
            case 2:
                was = it.go;
                it.go = v;
                return was;
            case 3:
                was = it.stiff;
                it.stiff = v;
                return was;
            default:
                was = it.drops;
                it.drops = v;
                return was;
        }
    }

    public int as(int block, int kind) {
        if (!live.has(block) || !within(kind, 0, KINDS - 1)) {
            return finding(BEYOND);
        }
        Block it = live.blocks[block];
        if (!isOf(it.kind, kind)) {
            return finding(KIND);
        }
        return live.holdsOf(block, it.stood);
    }

    public int holds(int block, int s) {
        if (!live.has(block) || !within(s, 0, MOST_STOOD)) {
            return finding(BEYOND);
        }
        return live.holdsOf(block, s);
    }

    public int rubs(int block, int n) {
        if (!live.has(block) || !within(n, 0, MOST_STEPS)) {
            return finding(BEYOND);
        }
        return live.blocks[block].rubsBy(n);
    }

    public int push(int block, int n) {
        if (!live.has(block) || !within(n, -MOST_PUSH, MOST_PUSH)) {
            return finding(BEYOND);
        }
        Block it = live.blocks[block];
        it.place += n;
        it.stood = 0;
        return it.place;
    }

    public int oil(int block, int n) {
        if (!live.has(block) || !within(n, 1, MOST_DROPS)) {
            return finding(BEYOND);
        }
        Block it = live.blocks[block];
        it.drops = Math.min(MOST_DROPS, it.drops + n);
        return it.drops;
    }

    public int pace(int v) {
        if (!within(v, -MOST_PACE, MOST_PACE)) {
            return finding(BEYOND);
        }
        int was = live.pace;
        live.pace = v;
        return was;
    }

    // ---- ticks

    public int ticks(int n) {
        if (!within(n, 1, MOST_TICKS)) {
            return finding(BEYOND);
        }
        for (int i = 0; i < n; i++) {
            live.tick();
            book.enter(live);
        }
        return live.size;
    }

    public int until(int m, int n) {
        if (!within(m, 1, MOST_SIZE) || !within(n, 1, MOST_TICKS)) {
            return finding(BEYOND);
        }
        for (int i = 1; i <= n; i++) {
            live.tick();
            book.enter(live);
            if (live.size >= m) {
                return i;
            }
        }
        return n;
    }

    public int book(int i, int what) {
        if (!within(i, 0, book.length - 1)) {
            return finding(BEYOND);
        }
        switch (what) {
            case 0: return book.sizes[book.slot(i)];
            case 1: return book.wides[book.slot(i)];
            case 2: return book.noises[book.slot(i)];
            default: return finding(BEYOND);
        }
    }

    public int counts(int c) {
        if (!within(c, 0, CLASSES - 1)) {
            return finding(BEYOND);
        }
        return book.classes[c];
    }

    public int power() {
        for (int c = 2; c < CLASSES; c++) {
            if (book.classes[c] > book.classes[c - 1]) {
                return 0;
            }
        }
        return 1;
    }

    public int tone() {
        int latest = -1;
        for (int i = 0; i < book.length; i++) {
            if (book.sizes[book.slot(i)] > 0) {
                if (latest >= 0) {
                    return i - latest;
                }
                latest = i;
            }
        }
        return finding(NONE);
    }

    public int great(int m, int what) {
        if (!within(m, 1, MOST_SIZE) || !within(what, 0, 1)) {
            return finding(BEYOND);
        }
        int great = 0;
        int warned = 0;
        for (int i = 0; i < book.length; i++) {
            if (book.sizes[book.slot(i)] >= m) {
                great++;
                if (i + 1 < book.length && book.sizes[book.slot(i + 1)] > 0) {
                    warned++;
                }
            }
        }
        return what == 0 ? great : warned;
    }

    public long noise(int block) {
        if (!live.has(block)) {
            return finding(BEYOND);
        }
        long all = 0;
        for (int i = 0; i < book.length; i++) {
            int slot = book.slot(i);
            if ((book.wides[slot] >> block & 1) == 1) {
                all += book.noises[slot];
            }
        }
        return all;
    }

    // ---- ahead

    public int ahead(int n, int what) {
        if (!within(n, 1, MOST_AHEAD) || !within(what, 0, 3 + live.length)) {
            return finding(BEYOND);
        }
        int jumps = 0;
        int greatest = 0;
        int noise = 0;
        trial.copyFrom(live);
        for (int i = 0; i < n; i++) {
            trial.tick();
            jumps += trial.size > 0 ? 1 : 0;
            greatest = Math.max(greatest, trial.size);
            noise += trial.noise;
        }
        switch (what) {
            case 0: return jumps;
            case 1: return jumps == n ? 1 : 0;
            case 2: return greatest;
            case 3: return noise;
            default: return trial.blocks[what - 4].place;
        }
    }

    public int from(int n) {
        if (!within(n, 1, MOST_AHEAD)) {
            return finding(BEYOND);
        }
        for (int pace = 0; pace <= MOST_PACE; pace++) {
            trial.copyFrom(live);
            trial.pace = pace;
            boolean even = true;
            for (int i = 0; i < n && even; i++) {
                trial.tick();
                even = trial.size > 0;
            }
            if (even) {
                return pace;
            }
        }
        return finding(NONE);
    }

    public int still(int block, int n, int m) {
        if (!live.has(block) || !within(n, 1, MOST_AHEAD) || !within(m, 0, MOST_SIZE)) {
            return finding(BEYOND);
        }
        for (int drops = 0; drops <= MOST_DROPS; drops++) {
            trial.copyFrom(live);
            trial.blocks[block].drops = drops;
            boolean calm = true;
            for (int i = 0; i < n && calm; i++) {
                trial.tick();
                calm = trial.size <= m;
            }
            if (calm) {
                return drops;
            }
        }
        return finding(NONE);
    }

    public int which(int block, int s) {
        if (!live.has(block) || !within(s, 0, SHEETS - 1)) {
            return finding(BEYOND);
        }
        Sheet sheet = sheets[s];
        if (sheet.isMissing()) {
            return finding(MISSING);
        }
        if (sheet.length == 0) {
            return finding(SIZE);
        }
        int kinds = 0;
        for (int kind = 0; kind < KINDS; kind++) {
            trial.copyFrom(live);
            trial.blocks[block].kind = kind;
            boolean same = true;
            for (int i = 0; i < sheet.length && same; i++) {
                trial.tick();
                same = trial.size == sheet.numbers[i];
            }
            kinds |= same ? 1 << kind : 0;
        }
        return kinds;
    }

    public int together(int a, int b, int n) {
        if (!live.has(a) || !live.has(b) || a == b || !within(n, 1, MOST_AHEAD)) {
            return finding(BEYOND);
        }
        int times = 0;
        trial.copyFrom(live);
        for (int i = 0; i < n; i++) {
            trial.tick();
            times += trial.wide >> a & trial.wide >> b & 1;
        }
        return times;
    }

    // ---- the law

    public int feed(int bytes, int n) {
        if (!within(n, 1, 4)) {
            return finding(BEYOND);
        }
        if (tape.length + n > MOST_BYTES) {
            return finding(FULL);
        }
        for (int i = n - 1; i >= 0; i--) {
            tape.bytes[tape.length] = bytes >>> 8 * i & 255;
            tape.length++;
        }
        return tape.length;
    }

    public int wipe() {
        int had = tape.length;
        tape.length = 0;
        return had;
    }

    public int law() {
        int fault = tape.findFault();
        if (fault >= 0) {
            return -1 - fault;
        }
        live.law.copyFrom(tape);
        tape.length = 0;
        return 0;
    }

    public int plain() {
        int was = live.law.length > 0 ? 1 : 0;
        live.law.length = 0;
        return was;
    }

    public int says(int block) {
        if (!live.has(block)) {
            return finding(BEYOND);
        }
        if (live.law.length == 0) {
            return finding(NONE);
        }
        Block it = live.blocks[block];
        return live.law.valueFor(it, block, live.pace, it.stood);
    }

    // ---- sheets

    public int sheet(int s, int bits, int n) {
        if (!within(s, 0, SHEETS - 1) || bits != 0 && bits != 8 && bits != 16 && bits != 64) {
            return finding(BEYOND);
        }
        if (n < 0) {
            return finding(SIZE);
        }
        if (n > MOST_NUMBERS) {
            return finding(BEYOND);
        }
        sheets[s].begin(bits, n);
        return sheets[s].length;
    }

    public long write(int s, int i, long v) {
        if (!within(s, 0, SHEETS - 1)) {
            return finding(BEYOND);
        }
        Sheet sheet = sheets[s];
        if (sheet.isMissing()) {
            return finding(MISSING);
        }
        if (!within(i, 0, sheet.length - 1)) {
            return finding(BEYOND);
        }
        long was = sheet.numbers[i];
        sheet.numbers[i] = sheet.lowestBits(v);
        return was;
    }

    public int copy(int s, int from, int t, int to, int n) {
        if (!within(s, 0, SHEETS - 1) || !within(t, 0, SHEETS - 1)) {
            return finding(BEYOND);
        }
        Sheet source = sheets[s];
        Sheet target = sheets[t];
        if (source.isMissing() || target.isMissing()) {
            return finding(MISSING);
        }
        if (source.bits != target.bits) {
            return finding(KIND);
        }
        if (!source.hasPart(from, n) || !target.hasPart(to, n)) {
            return finding(BEYOND);
        }
        System.arraycopy(source.numbers, from, target.numbers, to, n);
        return n;
    }

    public int draws(int s) {
        if (!within(s, 0, SHEETS - 1)) {
            return finding(BEYOND);
        }
        Sheet sheet = sheets[s];
        if (sheet.isMissing()) {
            return finding(MISSING);
        }
        int was = live.pace;
        int drawn = 0;
        for (int i = 0; i < sheet.length; i++) {
            long pace = sheet.numbers[i];
            if (pace >= -MOST_PACE && pace <= MOST_PACE) {
                live.pace = (int) pace;
                live.tick();
                book.enter(live);
                drawn++;
            }
        }
        live.pace = was;
        return drawn;
    }

    public int read(int s) {
        if (!within(s, 0, SHEETS - 1)) {
            return finding(BEYOND);
        }
        Sheet sheet = sheets[s];
        if (sheet.isMissing()) {
            return finding(MISSING);
        }
        for (int i = 0; i < sheet.length; i++) {
            if (!live.has(i) || live.blocks[i].place != sheet.numbers[i]) {
                return 1 + i;
            }
        }
        return 0;
    }

    // ---- images

    public int image() {
        kept.copyFrom(live);
        keptBook.copyFrom(book);
        isKept = true;
        return 1;
    }

    public int undo() {
        if (!isKept) {
            return finding(NONE);
        }
        live.copyFrom(kept);
        book.copyFrom(keptBook);
        return live.length;
    }

    public int tear() {
        int was = isKept ? 1 : 0;
        isKept = false;
        return was;
    }

    public int count(int what) {
        switch (what) {
            case 0: return live.length;
            case 1: return book.ticks;
            case 2: return book.chattered;
            case 3: return live.law.length > 0 ? 1 : 0;
            case 4: return tape.length;
            case 5: return live.pace;
            case 6: return live.hand;
            case 7: return book.length;
            default: return finding(BEYOND);
        }
    }

    public int status(int which) {
        if (!within(which, -1, FINDINGS - 1)) {
            return finding(BEYOND);
        }
        if (which >= 0) {
            return found[which];
        }
        int all = 0;
        for (int f = 0; f < FINDINGS; f++) {
            all += found[f];
        }
        return all;
    }

    // ---- helpers of the acts

    private int finding(int answer) {
        int which = BEYOND - answer;
        if (within(which, 0, FINDINGS - 1)) {
            found[which]++;
        }
        return answer;
    }

    private static boolean within(int v, int least, int most) {
        return v >= least && v <= most;
    }

    private static boolean canBecome(int what, int v) {
        switch (what) {
            case 1: return within(v, 1, MOST_HOLD);
            case 2: return within(v, 0, MOST_GO);
            case 3: return within(v, 0, MOST_STIFF);
            case 4: return within(v, 0, MOST_DROPS);
            default: return false;
        }
    }

    /** Whether a KIND is the one that is named, or under it. */
    private static boolean isOf(int kind, int named) {
        int at = kind;
        for (int i = 0; i < KINDS && within(at, 0, KINDS - 1); i++) {
            if (at == named) {
                return true;
            }
            at = UNDER[at];
        }
        return false;
    }

    private static final class Block {
        private int kind;
        private int hold;
        private int go;
        private int stiff;
        private int drops;
        private int place;
        private int stood;
        // From here on: what only the TICK that is going on needs.
        private int heldBy;
        private int pull;
        private int steps;
        private boolean moved;

        void begin(int newKind, int newHold, int newGo, int newStiff) {
            kind = newKind;
            hold = newHold;
            go = newGo;
            stiff = newStiff;
            drops = 0;
            place = 0;
            stood = 0;
        }

        void copyFrom(Block other) {
            kind = other.kind;
            hold = other.hold;
            go = other.go;
            stiff = other.stiff;
            drops = other.drops;
            place = other.place;
            stood = other.stood;
        }

        int plainHolds(int s) {
            return hold + Math.min(50, s / 4);
        }

        int rustyHolds(int s) {
            return plainHolds(s) + s;
        }

        int oiledHolds(int s) {
            return Math.max(0, plainHolds(s) / 2 - drops);
        }

        int rubsBy(int n) {
            switch (kind) {
                case RUSTY:
                case SEIZED:
                    return go;
                case OILED:
                case GREASED:
                    return Math.min(999, go / 2 + n);
                default:
                    return Math.max(0, go - n);
            }
        }

        void startTick(int holds) {
            heldBy = holds;
            steps = 0;
            moved = false;
        }

        /** A ROUND for this BLOCK, by the pull that was taken ahead of it; springs: the STIFF of both at it. */
        void move(int springs) {
            // A long, as the least int has no int without its sign.
            long strength = Math.abs((long) pull);
            int rubbed = rubsBy(steps);
            if (strength <= (moved ? rubbed : heldBy)) {
                steps = 0;
                return;
            }
            long wanted = (strength - rubbed) / Math.max(1, springs);
            steps = (int) Math.max(1, Math.min(MOST_STEPS, wanted));
            place += pull > 0 ? steps : -steps;
            moved = true;
        }

        void endTick() {
            if (moved) {
                stood = 0;
                drops = Math.max(0, drops - 1);
            } else {
                stood = Math.min(MOST_STOOD, stood + 1);
            }
        }
    }

    /** THE HAND, the BLOCKS and THE LAW: what a TICK needs, so that one can go on on a copy. */
    private static final class Row {
        private final Block[] blocks = new Block[MOST_BLOCKS];
        private int length = 0;
        private int hand = 0;
        private int pace = 1;
        private final Text law = new Text();
        // From here on: what the latest TICK was.
        private int size = 0;
        private int wide = 0;
        private int noise = 0;
        private boolean chatters = false;

        Row() {
            for (int b = 0; b < MOST_BLOCKS; b++) {
                blocks[b] = new Block();
            }
        }

        void copyFrom(Row other) {
            length = other.length;
            hand = other.hand;
            pace = other.pace;
            law.copyFrom(other.law);
            for (int b = 0; b < length; b++) {
                blocks[b].copyFrom(other.blocks[b]);
            }
        }

        boolean has(int b) {
            return b >= 0 && b < length;
        }

        int pullOf(int b) {
            Block it = blocks[b];
            int before = b == 0 ? hand : blocks[b - 1].place;
            int pull = it.stiff * (before - it.place);
            if (b + 1 < length) {
                Block behind = blocks[b + 1];
                pull -= behind.stiff * (it.place - behind.place);
            }
            return pull;
        }

        int holdsOf(int b, int s) {
            Block it = blocks[b];
            switch (it.kind) {
                case RUSTY:
                    return it.rustyHolds(s);
                case OILED:
                    return it.oiledHolds(s);
                case LAWED:
                    if (law.length == 0) {
                        return it.hold;
                    }
                    return Math.max(0, Math.min(MOST_LAWED, law.valueFor(it, b, pace, s)));
                case SEIZED:
                    return s >= 40 ? 3 * it.rustyHolds(s) : it.rustyHolds(s);
                case GREASED:
                    return Math.max(0, it.oiledHolds(s) - it.drops);
                default:
                    return it.plainHolds(s);
            }
        }

        void tick() {
            hand += pace;
            size = 0;
            wide = 0;
            noise = 0;
            // HOLDS are the same in all ROUNDS, so THE LAW is asked only once for each BLOCK.
            for (int b = 0; b < length; b++) {
                blocks[b].startTick(holdsOf(b, blocks[b].stood));
            }
            boolean moving = true;
            for (int r = 0; r < MOST_ROUNDS && moving; r++) {
                moving = round();
            }
            chatters = moving;
            for (int b = 0; b < length; b++) {
                blocks[b].endTick();
            }
        }

        /** One ROUND: whether any BLOCK moved in it. */
        private boolean round() {
            // All pulls first: every BLOCK goes by PLACES as they stood ahead of the ROUND.
            for (int b = 0; b < length; b++) {
                blocks[b].pull = pullOf(b);
            }
            boolean any = false;
            for (int b = 0; b < length; b++) {
                Block it = blocks[b];
                it.move(it.stiff + (b + 1 < length ? blocks[b + 1].stiff : 0));
                if (it.steps > 0) {
                    any = true;
                    size++;
                    wide |= 1 << b;
                    noise += it.steps;
                }
            }
            return any;
        }
    }

    /** THE BOOK (a ring of the latest TICKS) and COUNTS of all TICKS ever. */
    private static final class Book {
        private final int[] sizes = new int[BOOK_TICKS];
        private final int[] wides = new int[BOOK_TICKS];
        private final int[] noises = new int[BOOK_TICKS];
        private final int[] classes = new int[CLASSES];
        private int length = 0;
        private int next = 0;
        private int ticks = 0;
        private int chattered = 0;

        void copyFrom(Book other) {
            System.arraycopy(other.sizes, 0, sizes, 0, BOOK_TICKS);
            System.arraycopy(other.wides, 0, wides, 0, BOOK_TICKS);
            System.arraycopy(other.noises, 0, noises, 0, BOOK_TICKS);
            System.arraycopy(other.classes, 0, classes, 0, CLASSES);
            length = other.length;
            next = other.next;
            ticks = other.ticks;
            chattered = other.chattered;
        }

        /** Where the i-th latest TICK stands in the ring. */
        int slot(int i) {
            return Math.floorMod(next - 1 - i, BOOK_TICKS);
        }

        void enter(Row row) {
            sizes[next] = row.size;
            wides[next] = row.wide;
            noises[next] = row.noise;
            next = (next + 1) % BOOK_TICKS;
            length = Math.min(BOOK_TICKS, length + 1);
            classes[classOf(row.size)]++;
            ticks++;
            chattered += row.chatters ? 1 : 0;
        }

        /** Each CLASS but the last ends below the power of two of its number. */
        private static int classOf(int size) {
            int c = 0;
            while (c < CLASSES - 1 && size >= 1 << c) {
                c++;
            }
            return c;
        }
    }

    /** Bytes that may be a LAW: THE TAPE, and THE LAW itself (none, if there are no bytes). */
    private static final class Text {
        private static final int END = -1;
        private static final int NO_BYTE = -2;

        private final int[] bytes = new int[MOST_BYTES];
        private int length = 0;
        // From here on: what only a reading that is going on needs.
        private int at;
        private int sign;
        private int fault;
        private int stood;
        private int hold;
        private int go;
        private int block;
        private int drops;
        private int pace;

        void copyFrom(Text other) {
            length = other.length;
            System.arraycopy(other.bytes, 0, bytes, 0, length);
        }

        /** The FAULT, or -1 if there is none. */
        int findFault() {
            begin();
            sum(0);
            if (fault < 0 && at < length) {
                fault = at;
            }
            return fault;
        }

        /** What it gives, if it has no FAULT. */
        int valueFor(Block it, int number, int newPace, int s) {
            stood = s;
            hold = it.hold;
            go = it.go;
            block = number;
            drops = it.drops;
            pace = newPace;
            begin();
            return sum(0);
        }

        private void begin() {
            at = 0;
            fault = -1;
            sign = length > 0 ? bytes[0] : END;
        }

        /** Goes past the byte that is wanted; if another stands there, that is the FAULT, and no more is seen. */
        private void pass(int wanted) {
            if (fault < 0 && at < length && sign == wanted) {
                at++;
            } else if (fault < 0) {
                fault = at;
            }
            sign = fault < 0 && at < length ? bytes[at] : END;
        }

        private int sum(int open) {
            int value = product(open);
            for (int i = 0; i < MOST_BYTES && (sign == '+' || sign == '-'); i++) {
                int by = sign;
                pass(by);
                int other = product(open);
                value = by == '+' ? value + other : value - other;
            }
            return value;
        }

        private int product(int open) {
            int value = factor(open);
            for (int i = 0; i < MOST_BYTES && (sign == '*' || sign == '/'); i++) {
                int by = sign;
                pass(by);
                int other = factor(open);
                if (by == '*') {
                    value *= other;
                } else {
                    value = other == 0 ? 0 : value / other;
                }
            }
            return value;
        }

        private int factor(int open) {
            int first = sign;
            int value = 0;
            if (first >= '0' && first <= '9') {
                for (int i = 0; i < 3 && sign >= '0' && sign <= '9'; i++) {
                    value = 10 * value + sign - '0';
                    pass(sign);
                }
                return value;
            }
            if (first == '-' || first == '(' || first == '[') {
                if (open >= MOST_OPEN) {
                    pass(NO_BYTE);
                    return 0;
                }
                pass(first);
                if (first == '-') {
                    return -factor(open + 1);
                }
                value = sum(open + 1);
                if (first == '[') {
                    pass(',');
                    value = Math.max(value, sum(open + 1));
                }
                pass(first == '[' ? ']' : ')');
                return value;
            }
            value = named(first);
            pass(isName(first) ? first : NO_BYTE);
            return value;
        }

        private static boolean isName(int sign) {
            return sign == 's' || sign == 'b' || sign == 'g' || sign == 'k' || sign == 'd' || sign == 'p';
        }

        private int named(int name) {
            switch (name) {
                case 's': return stood;
                case 'b': return hold;
                case 'g': return go;
                case 'k': return block;
                case 'd': return drops;
                case 'p': return pace;
                default: return 0;
            }
        }
    }

    private static final class Sheet {
        private final long[] numbers = new long[MOST_NUMBERS];
        private int bits = 0;
        private int length = 0;

        boolean isMissing() {
            return bits == 0;
        }

        void begin(int newBits, int n) {
            bits = newBits;
            length = newBits == 0 ? 0 : n;
            for (int i = 0; i < MOST_NUMBERS; i++) {
                numbers[i] = 0;
            }
        }

        long lowestBits(long v) {
            switch (bits) {
                case 8: return (byte) v;
                case 16: return (short) v;
                default: return v;
            }
        }

        boolean hasPart(int from, int n) {
            return from >= 0 && n >= 0 && n <= length && from <= length - n;
        }
    }
}
