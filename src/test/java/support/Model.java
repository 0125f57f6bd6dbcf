import java.util.ArrayDeque;
import java.util.ArrayList;
import java.util.Deque;
import java.util.List;

/**
 * The document a second time, in another form: lists that grow, a fresh copy for each trial, a law read by a machine
 * with stacks. It is slow and makes what it likes; ModelTest lays its answers beside those of the class.
 */
final class Model {
    private static final class Finding extends RuntimeException {
        private static final long serialVersionUID = 1;
        final int which;

        Finding(int which) {
            super(null, null, false, false);
            this.which = which;
        }
    }

    private record Tick(int size, int wide, int noise) {
    }

    private static final class Part {
        int kind, hold, go, stiff, drops, place, stood;

        Part copy() {
            Part p = new Part();
            p.kind = kind;
            p.hold = hold;
            p.go = go;
            p.stiff = stiff;
            p.drops = drops;
            p.place = place;
            p.stood = stood;
            return p;
        }
    }

    private static final class World {
        List<Part> parts = new ArrayList<>();
        List<Tick> ever = new ArrayList<>();
        int hand = 0;
        int pace = 1;
        int chattered = 0;
        String law = null;

        World copy() {
            World w = new World();
            for (Part p : parts) {
                w.parts.add(p.copy());
            }
            w.ever = new ArrayList<>(ever);
            w.hand = hand;
            w.pace = pace;
            w.chattered = chattered;
            w.law = law;
            return w;
        }

        /** The latest 100, the latest one first. */
        List<Tick> book() {
            List<Tick> book = new ArrayList<>();
            for (int i = ever.size() - 1; i >= 0 && book.size() < 100; i--) {
                book.add(ever.get(i));
            }
            return book;
        }

        int says(int b, int s) {
            Part p = parts.get(b);
            return Machine.value(law, new int[] {s, p.hold, p.go, b, p.drops, pace});
        }

        int holds(int b, int s) {
            Part p = parts.get(b);
            int fourth = s / 4 > 50 ? 50 : s / 4;
            int plain = p.hold + fourth;
            int oiled = plain / 2 > p.drops ? plain / 2 - p.drops : 0;
            if (p.kind == 0) {
                return plain;
            }
            if (p.kind == 1 || p.kind == 4 && s < 40) {
                return plain + s;
            }
            if (p.kind == 4) {
                return 3 * plain + 3 * s;
            }
            if (p.kind == 2) {
                return oiled;
            }
            if (p.kind == 5) {
                return oiled > p.drops ? oiled - p.drops : 0;
            }
            if (law == null) {
                return p.hold;
            }
            int says = says(b, s);
            return says < 0 ? 0 : says > 9999 ? 9999 : says;
        }

        int rubs(int b, int n) {
            Part p = parts.get(b);
            if (p.kind == 1 || p.kind == 4) {
                return p.go;
            }
            if (p.kind == 2 || p.kind == 5) {
                return p.go / 2 + n > 999 ? 999 : p.go / 2 + n;
            }
            return p.go > n ? p.go - n : 0;
        }

        int pull(int b) {
            Part p = parts.get(b);
            long ahead = b == 0 ? hand : parts.get(b - 1).place;
            long pull = p.stiff * (ahead - p.place);
            if (b < parts.size() - 1) {
                Part q = parts.get(b + 1);
                pull -= q.stiff * ((long) p.place - q.place);
            }
            return (int) pull;
        }

        Tick tick() {
            hand += pace;
            int n = parts.size();
            int[] latest = new int[n];
            boolean[] moved = new boolean[n];
            int size = 0;
            int noise = 0;
            int rounds = 0;
            while (true) {
                int[] steps = new int[n];
                boolean any = false;
                for (int b = 0; b < n; b++) {
                    long pull = pull(b);
                    long strong = pull < 0 ? -pull : pull;
                    long rubbed = rubs(b, latest[b]);
                    long against = moved[b] ? rubbed : holds(b, parts.get(b).stood);
                    if (strong > against) {
                        int springs = parts.get(b).stiff + (b + 1 < n ? parts.get(b + 1).stiff : 0);
                        long way = (strong - rubbed) / (springs == 0 ? 1 : springs);
                        way = way < 1 ? 1 : way > 999 ? 999 : way;
                        steps[b] = (int) (pull < 0 ? -way : way);
                        any = true;
                    }
                }
                if (!any) {
                    break;
                }
                for (int b = 0; b < n; b++) {
                    parts.get(b).place += steps[b];
                    latest[b] = steps[b] < 0 ? -steps[b] : steps[b];
                    noise += latest[b];
                    if (steps[b] != 0) {
                        moved[b] = true;
                        size++;
                    }
                }
                rounds++;
                if (rounds == 40) {
                    chattered++;
                    break;
                }
            }
            int wide = 0;
            for (int b = 0; b < n; b++) {
                Part p = parts.get(b);
                if (moved[b]) {
                    wide += 1 << b;
                    p.stood = 0;
                    p.drops -= p.drops > 0 ? 1 : 0;
                } else {
                    p.stood += p.stood < 999 ? 1 : 0;
                }
            }
            Tick tick = new Tick(size, wide, noise);
            ever.add(tick);
            return tick;
        }

        List<Tick> ticks(int n) {
            List<Tick> ticks = new ArrayList<>();
            for (int i = 0; i < n; i++) {
                ticks.add(tick());
            }
            return ticks;
        }
    }

    /** Reads a law sign by sign, with a stack of what is open and the two stacks of a shunting yard. */
    static final class Machine {
        private final Deque<Character> open = new ArrayDeque<>();
        private final Deque<Integer> values = new ArrayDeque<>();
        private final Deque<Character> yard = new ArrayDeque<>();
        private final int[] names;
        private boolean wantsOperand = true;
        private int digits = 0;

        private Machine(int[] names) {
            this.names = names;
        }

        static int fault(String text) {
            Machine m = new Machine(new int[6]);
            for (int i = 0; i < text.length(); i++) {
                if (!m.takes(text.charAt(i))) {
                    return i;
                }
            }
            return m.wantsOperand || !m.open.isEmpty() ? text.length() : -1;
        }

        static int value(String text, int[] names) {
            Machine m = new Machine(names);
            for (int i = 0; i < text.length(); i++) {
                m.takes(text.charAt(i));
            }
            m.reckonTo(0);
            return m.values.pop();
        }

        private boolean takes(char c) {
            return wantsOperand ? takesOperand(c) : takesBehindOne(c);
        }

        private boolean takesOperand(char c) {
            if (c >= '0' && c <= '9') {
                values.push(c - '0');
                digits = 1;
                wantsOperand = false;
                closeSigns();
                return true;
            }
            if ("sbgkdp".indexOf(c) >= 0) {
                values.push(names["sbgkdp".indexOf(c)]);
                digits = 9;
                wantsOperand = false;
                closeSigns();
                return true;
            }
            if (c != '-' && c != '(' && c != '[' || open.size() == 5) {
                return false;
            }
            open.push(c);
            yard.push(c == '-' ? '~' : c);
            return true;
        }

        private void closeSigns() {
            while (!open.isEmpty() && open.peek() == '-') {
                open.pop();
            }
        }

        private boolean takesBehindOne(char c) {
            if (c >= '0' && c <= '9') {
                digits++;
                if (digits <= 3) {
                    values.push(10 * values.pop() + c - '0');
                }
                return digits <= 3;
            }
            if (c == '*' || c == '/' || c == '+' || c == '-') {
                reckonTo(c == '*' || c == '/' ? 2 : 1);
                yard.push(c);
                wantsOperand = true;
                return true;
            }
            if (open.isEmpty()) {
                return false;
            }
            char wanted = open.peek() == '(' ? ')' : open.peek() == '[' ? ',' : ']';
            if (c != wanted) {
                return false;
            }
            reckonTo(0);
            open.pop();
            char opener = yard.pop();
            if (c == ',') {
                open.push(',');
                yard.push(',');
                wantsOperand = true;
                return true;
            }
            if (opener == ',') {
                int b = values.pop();
                int a = values.pop();
                values.push(a > b ? a : b);
            }
            digits = 9;
            closeSigns();
            return true;
        }

        private static int rank(char by) {
            return by == '~' ? 3 : by == '*' || by == '/' ? 2 : by == '+' || by == '-' ? 1 : 0;
        }

        private void reckonTo(int least) {
            while (!yard.isEmpty() && rank(yard.peek()) > 0 && rank(yard.peek()) >= least) {
                char by = yard.pop();
                int b = values.pop();
                if (by == '~') {
                    values.push(0 - b);
                    continue;
                }
                long a = values.pop();
                long c = by == '+' ? a + b : by == '-' ? a - b : by == '*' ? a * b : b == 0 ? 0 : a / b;
                values.push((int) c);
            }
        }
    }

    private World world = new World();
    private World kept = null;
    private String tape = "";
    private final long[][] sheets = new long[4][];
    private final int[] bits = new int[4];
    private final int[] found = new int[7];

    private static void need(boolean so, int which) {
        if (!so) {
            throw new Finding(which);
        }
    }

    private static void in(int v, int least, int most) {
        need(v >= least && v <= most, 0);
    }

    private void isBlock(int b) {
        in(b, 0, world.parts.size() - 1);
    }

    private static final int[] MOST = {0, 999, 999, 99, 99};

    /** The call by its name, with as many ints (and a long, for write) as it has. */
    long answer(String call, int[] a, long v) {
        try {
            return asked(call, a, v);
        } catch (Finding f) {
            found[f.which]++;
            return -1000000001L - f.which;
        }
    }

    private long asked(String call, int[] a, long v) {
        switch (call) {
            case "block": case "of": case "set": case "as": case "holds": case "rubs": case "push": case "oil":
            case "pace":
                return ofBlocks(call, a);
            case "ticks": case "until": case "book": case "counts": case "power": case "tone": case "great":
            case "noise":
                return ofTicks(call, a);
            case "ahead": case "from": case "still": case "which": case "together":
                return ofAhead(call, a);
            case "feed": case "wipe": case "law": case "plain": case "says":
                return ofLaw(call, a);
            case "sheet": case "write": case "copy": case "draws": case "read":
                return ofSheets(call, a, v);
            default:
                return ofImages(call, a);
        }
    }

    private long ofBlocks(String call, int[] a) {
        if (call.equals("pace")) {
            in(a[0], -99, 99);
            int was = world.pace;
            world.pace = a[0];
            return was;
        }
        if (call.equals("block")) {
            in(a[0], 0, 5);
            in(a[1], 1, 999);
            in(a[2], 0, 999);
            in(a[3], 0, 99);
            need(world.parts.size() < 10, 1);
            Part p = new Part();
            p.kind = a[0];
            p.hold = a[1];
            p.go = a[2];
            p.stiff = a[3];
            world.parts.add(p);
            return world.parts.size() - 1;
        }
        isBlock(a[0]);
        Part p = world.parts.get(a[0]);
        switch (call) {
            case "of": {
                in(a[1], 0, 8);
                int[] all = {p.kind, p.hold, p.go, p.stiff, p.drops, p.place, p.stood, world.pull(a[0]),
                    world.holds(a[0], p.stood)};
                return all[a[1]];
            }
            case "set": {
                in(a[1], 1, 4);
                in(a[2], a[1] == 1 ? 1 : 0, MOST[a[1]]);
                int[] was = {0, p.hold, p.go, p.stiff, p.drops};
                p.hold = a[1] == 1 ? a[2] : p.hold;
                p.go = a[1] == 2 ? a[2] : p.go;
                p.stiff = a[1] == 3 ? a[2] : p.stiff;
                p.drops = a[1] == 4 ? a[2] : p.drops;
                return was[a[1]];
            }
            case "as":
                in(a[1], 0, 5);
                need(a[1] == 0 || a[1] == p.kind || a[1] == 1 && p.kind == 4 || a[1] == 2 && p.kind == 5, 2);
                return world.holds(a[0], p.stood);
            case "holds":
                in(a[1], 0, 999);
                return world.holds(a[0], a[1]);
            case "rubs":
                in(a[1], 0, 999);
                return world.rubs(a[0], a[1]);
            case "push":
                in(a[1], -9999, 9999);
                p.place += a[1];
                p.stood = 0;
                return p.place;
            default:
                in(a[1], 1, 99);
                p.drops = p.drops + a[1] > 99 ? 99 : p.drops + a[1];
                return p.drops;
        }
    }

    private long ofTicks(String call, int[] a) {
        List<Tick> book = world.book();
        switch (call) {
            case "ticks":
                in(a[0], 1, 100);
                return world.ticks(a[0]).get(a[0] - 1).size();
            case "until": {
                in(a[0], 1, 400);
                in(a[1], 1, 100);
                int n = 1;
                while (world.tick().size() < a[0] && n < a[1]) {
                    n++;
                }
                return n;
            }
            case "book": {
                in(a[0], 0, book.size() - 1);
                in(a[1], 0, 2);
                Tick t = book.get(a[0]);
                return a[1] == 0 ? t.size() : a[1] == 1 ? t.wide() : t.noise();
            }
            case "counts":
                in(a[0], 0, 6);
                return counts(a[0]);
            case "power": {
                boolean falls = true;
                for (int c = 1; c < 6; c++) {
                    falls &= counts(c + 1) <= counts(c);
                }
                return falls ? 1 : 0;
            }
            case "tone": {
                List<Integer> jumps = new ArrayList<>();
                for (int i = 0; i < book.size(); i++) {
                    if (book.get(i).size() > 0) {
                        jumps.add(i);
                    }
                }
                need(jumps.size() >= 2, 3);
                return jumps.get(1) - jumps.get(0);
            }
            case "great": {
                in(a[0], 1, 400);
                in(a[1], 0, 1);
                int great = 0;
                int warned = 0;
                for (int i = 0; i < book.size(); i++) {
                    boolean is = book.get(i).size() >= a[0];
                    great += is ? 1 : 0;
                    warned += is && i < book.size() - 1 && book.get(i + 1).size() > 0 ? 1 : 0;
                }
                return a[1] == 0 ? great : warned;
            }
            default: {
                isBlock(a[0]);
                long noise = 0;
                for (Tick t : book) {
                    noise += (t.wide() & 1 << a[0]) != 0 ? t.noise() : 0;
                }
                return noise;
            }
        }
    }

    private int counts(int c) {
        int[] least = {0, 1, 2, 4, 8, 16, 32, 401};
        int n = 0;
        for (Tick t : world.ever) {
            n += t.size() >= least[c] && t.size() < least[c + 1] ? 1 : 0;
        }
        return n;
    }

    private long ofAhead(String call, int[] a) {
        switch (call) {
            case "ahead": {
                in(a[0], 1, 60);
                in(a[1], 0, 3 + world.parts.size());
                World w = world.copy();
                List<Tick> ticks = w.ticks(a[0]);
                int jumps = 0;
                int most = 0;
                int noise = 0;
                for (Tick t : ticks) {
                    jumps += t.size() > 0 ? 1 : 0;
                    most = t.size() > most ? t.size() : most;
                    noise += t.noise();
                }
                return a[1] == 0 ? jumps : a[1] == 1 ? jumps / a[0] : a[1] == 2 ? most : a[1] == 3 ? noise
                    : w.parts.get(a[1] - 4).place;
            }
            case "from": {
                in(a[0], 1, 60);
                for (int pace = 0; pace <= 99; pace++) {
                    World w = world.copy();
                    w.pace = pace;
                    if (w.ticks(a[0]).stream().allMatch(t -> t.size() > 0)) {
                        return pace;
                    }
                }
                throw new Finding(3);
            }
            case "still": {
                isBlock(a[0]);
                in(a[1], 1, 60);
                in(a[2], 0, 400);
                for (int drops = 0; drops <= 99; drops++) {
                    World w = world.copy();
                    w.parts.get(a[0]).drops = drops;
                    if (w.ticks(a[1]).stream().allMatch(t -> t.size() <= a[2])) {
                        return drops;
                    }
                }
                throw new Finding(3);
            }
            case "which": {
                isBlock(a[0]);
                in(a[1], 0, 3);
                long[] numbers = sheets[a[1]];
                need(numbers != null, 5);
                need(numbers.length > 0, 6);
                int set = 0;
                for (int kind = 0; kind < 6; kind++) {
                    World w = world.copy();
                    w.parts.get(a[0]).kind = kind;
                    List<Tick> ticks = w.ticks(numbers.length);
                    boolean same = true;
                    for (int i = 0; i < numbers.length; i++) {
                        same &= ticks.get(i).size() == numbers[i];
                    }
                    set += same ? 1 << kind : 0;
                }
                return set;
            }
            default: {
                isBlock(a[0]);
                isBlock(a[1]);
                need(a[0] != a[1], 0);
                in(a[2], 1, 60);
                int both = 1 << a[0] | 1 << a[1];
                return world.copy().ticks(a[2]).stream().filter(t -> (t.wide() & both) == both).count();
            }
        }
    }

    private long ofLaw(String call, int[] a) {
        switch (call) {
            case "feed": {
                in(a[1], 1, 4);
                need(tape.length() + a[1] <= 60, 1);
                String four = "" + (char) (a[0] >> 24 & 255) + (char) (a[0] >> 16 & 255) + (char) (a[0] >> 8 & 255)
                    + (char) (a[0] & 255);
                tape += four.substring(4 - a[1]);
                return tape.length();
            }
            case "wipe": {
                int had = tape.length();
                tape = "";
                return had;
            }
            case "law": {
                int fault = Machine.fault(tape);
                if (fault >= 0) {
                    return -1 - fault;
                }
                world.law = tape;
                tape = "";
                return 0;
            }
            case "plain": {
                boolean was = world.law != null;
                world.law = null;
                return was ? 1 : 0;
            }
            default:
                isBlock(a[0]);
                need(world.law != null, 3);
                return world.says(a[0], world.parts.get(a[0]).stood);
        }
    }

    private long ofSheets(String call, int[] a, long v) {
        in(a[0], 0, 3);
        if (call.equals("sheet")) {
            need(a[1] == 0 || a[1] == 8 || a[1] == 16 || a[1] == 64, 0);
            need(a[2] >= 0, 6);
            in(a[2], 0, 40);
            bits[a[0]] = a[1];
            sheets[a[0]] = a[1] == 0 ? null : new long[a[2]];
            return a[1] == 0 ? 0 : a[2];
        }
        if (call.equals("copy")) {
            in(a[2], 0, 3);
            long[] source = sheets[a[0]];
            long[] target = sheets[a[2]];
            need(source != null && target != null, 5);
            need(bits[a[0]] == bits[a[2]], 2);
            need(a[1] >= 0 && a[3] >= 0 && a[4] >= 0, 0);
            need((long) a[1] + a[4] <= source.length && (long) a[3] + a[4] <= target.length, 0);
            long[] as = source.clone();
            for (int i = 0; i < a[4]; i++) {
                target[a[3] + i] = as[a[1] + i];
            }
            return a[4];
        }
        long[] numbers = sheets[a[0]];
        need(numbers != null, 5);
        switch (call) {
            case "write": {
                in(a[1], 0, numbers.length - 1);
                long was = numbers[a[1]];
                int out = 64 - bits[a[0]];
                numbers[a[1]] = v << out >> out;
                return was;
            }
            case "draws": {
                int pace = world.pace;
                int n = 0;
                for (long number : numbers) {
                    if (number >= -99 && number <= 99) {
                        world.pace = (int) number;
                        world.tick();
                        n++;
                    }
                }
                world.pace = pace;
                return n;
            }
            default:
                for (int i = 0; i < numbers.length; i++) {
                    if (i >= world.parts.size() || numbers[i] != world.parts.get(i).place) {
                        return 1 + i;
                    }
                }
                return 0;
        }
    }

    private long ofImages(String call, int[] a) {
        switch (call) {
            case "image":
                kept = world.copy();
                return 1;
            case "undo":
                need(kept != null, 3);
                world = kept.copy();
                return world.parts.size();
            case "tear": {
                boolean was = kept != null;
                kept = null;
                return was ? 1 : 0;
            }
            case "count": {
                in(a[0], 0, 7);
                int[] all = {world.parts.size(), world.ever.size(), world.chattered, world.law == null ? 0 : 1,
                    tape.length(), world.pace, world.hand, world.book().size()};
                return all[a[0]];
            }
            case "status": {
                in(a[0], -1, 6);
                int all = 0;
                for (int n : found) {
                    all += n;
                }
                return a[0] == -1 ? all : found[a[0]];
            }
            default:
                throw new IllegalArgumentException(call);
        }
    }
}
