import java.util.ArrayList;
import java.util.Arrays;
import java.util.HashSet;
import java.util.List;
import java.util.Map;
import java.util.Set;
import java.util.TreeMap;
import java.util.TreeSet;

/**
 * Runs of calls from fixed seeds, beside a second rewriter that works in another way: it writes the
 * whole method anew in every round. It has the same author, and so the same reading of the document.
 */
public final class ReferenceRuns {
    private static final int RUNS = 6000, CALLS = 512;
    private static int wrong = 0;
    private static final int[] answered = new int[3];
    private static int farSeen = 0, roundsSeen = 0;

    public static void main(String[] args) {
        for (int seed = 1; seed <= RUNS && wrong < 20; seed++) {
            new Run(seed).go();
        }
        System.out.println(RUNS + " runs; rewrites that answered 0, 1, 2: " + Arrays.toString(answered)
            + "; most far jumps " + farSeen + ", most rounds " + roundsSeen);
        boolean thin = answered[0] < 10000 || answered[1] < 1000 || answered[2] < 100 || roundsSeen < 4;
        if (thin) {
            System.out.println("the runs do not reach all that they should");
        }
        System.out.println(wrong + " answers are not as due");
        if (wrong != 0 || thin) {
            System.exit(1);
        }
    }

    /** A generator of numbers that is the same everywhere. */
    private static final class Dice {
        private long state;

        Dice(long seed) {
            state = seed * 0x9E3779B97F4A7C15L + 1;
        }

        int below(int n) {
            state = state * 6364136223846793005L + 1442695040888963407L;
            return (int) ((state >>> 33) % n);
        }

        boolean once(int in) {
            return below(in) == 0;
        }

        int among(int... values) {
            return values[below(values.length)];
        }
    }

    private static final class Rewritten {
        final List<Integer> octets = new ArrayList<>();
        /** Old place: FRONT, opcode, octets, COST of the BLOCK, far. */
        final Map<Integer, int[]> moved = new TreeMap<>();
        final List<int[]> guards = new ArrayList<>();
        final int[] about = new int[8];
        int end;
    }

    /** The document's words as plainly as Java has them. */
    private static final class Reference {
        final List<Integer> code = new ArrayList<>();
        final List<int[]> handlers = new ArrayList<>();
        final int[] costs = new int[201];
        final Set<Integer> marked = new HashSet<>();
        int base = 1000, reach = 32767, times = 0;
        Rewritten last = null;

        private final TreeMap<Integer, Integer> lengths = new TreeMap<>();
        private final Map<Integer, Integer> blockCosts = new TreeMap<>();
        private final Set<Integer> farPlaces = new HashSet<>();

        Reference() {
            Arrays.fill(costs, 1);
        }

        long signed(int at, int octets) {
            long v = 0;
            for (int i = 0; i < octets; i++) {
                v = v * 256 + code.get(at + i);
            }
            long whole = 1L << (8 * octets);
            return v >= whole / 2 ? v - whole : v;
        }

        static int behind(int op) {
            String two = " 17 19 20 132 153 154 155 156 157 158 159 160 161 162 163 164 165 166 167 "
                + "178 179 180 181 182 183 184 187 189 192 193 198 199 ";
            String one = " 16 18 21 22 23 24 25 54 55 56 57 58 188 ";
            String word = " " + op + " ";
            if (one.contains(word)) {
                return 1;
            }
            if (two.contains(word)) {
                return 2;
            }
            return op == 197 ? 3 : op == 185 || op == 186 || op == 200 ? 4 : 0;
        }

        /** Throws where the end cuts it. */
        int lengthOf(int p) {
            int op = code.get(p);
            if (op > 200 || op == 168 || op == 169) {
                throw new IndexOutOfBoundsException();
            }
            int length = 1 + behind(op);
            if (op == 196) {
                int next = code.get(p + 1);
                boolean wide = next >= 21 && next <= 25 || next >= 54 && next <= 58;
                if (!wide && next != 132) {
                    throw new IndexOutOfBoundsException();
                }
                length = wide ? 4 : 6;
            }
            if (op == 170 || op == 171) {
                int q = firstWord(p);
                long n = op == 170 ? signed(q + 8, 4) - signed(q + 4, 4) + 1 : signed(q + 4, 4);
                if (n > 20 || n < (op == 170 ? 1 : 0)) {
                    throw new IndexOutOfBoundsException();
                }
                length = (int) (q - p + (op == 170 ? 12 + 4 * n : 8 + 8 * n));
            }
            code.get(p + length - 1);
            return length;
        }

        static int firstWord(int p) {
            int q = p + 1;
            while (q % 4 != 0) {
                q++;
            }
            return q;
        }

        /** Where in the old code distances of four octets stand, for a switch. */
        List<Integer> switchSlots(int p) {
            List<Integer> slots = new ArrayList<>();
            int q = firstWord(p);
            slots.add(q);
            boolean table = code.get(p) == 170;
            for (int at = q + 12; at < p + lengths.get(p); at += table ? 4 : 8) {
                slots.add(at);
            }
            return slots;
        }

        static boolean isShort(int op) {
            return op >= 153 && op <= 167 || op == 198 || op == 199;
        }

        List<Long> goals(int p) {
            List<Long> goals = new ArrayList<>();
            int op = code.get(p);
            if (isShort(op)) {
                goals.add(p + signed(p + 1, 2));
            } else if (op == 200) {
                goals.add(p + signed(p + 1, 4));
            } else if (op == 170 || op == 171) {
                for (int slot : switchSlots(p)) {
                    goals.add(p + signed(slot, 4));
                }
            }
            return goals;
        }

        boolean formed() {
            lengths.clear();
            if (code.isEmpty()) {
                return false;
            }
            try {
                for (int p = 0; p < code.size(); p += lengths.get(p)) {
                    lengths.put(p, lengthOf(p));
                }
            } catch (IndexOutOfBoundsException e) {
                return false;
            }
            for (int p : lengths.keySet()) {
                for (long goal : goals(p)) {
                    if (goal < 0 || goal > 200 || !lengths.containsKey((int) goal)) {
                        return false;
                    }
                }
            }
            for (int[] h : handlers) {
                boolean to = lengths.containsKey(h[1]) || h[1] == code.size();
                if (!lengths.containsKey(h[0]) || !lengths.containsKey(h[2]) || !to || h[0] >= h[1]) {
                    return false;
                }
            }
            return true;
        }

        void findBlocks() {
            TreeSet<Integer> starts = new TreeSet<>();
            starts.add(0);
            for (int p : lengths.keySet()) {
                for (long goal : goals(p)) {
                    starts.add((int) goal);
                }
                int op = code.get(p);
                boolean ends = op >= 153 && op <= 167 || op >= 170 && op <= 177 || op == 191
                    || op >= 198 && op <= 200;
                if (ends && p + lengths.get(p) < code.size()) {
                    starts.add(p + lengths.get(p));
                }
            }
            for (int[] h : handlers) {
                starts.add(h[2]);
            }
            blockCosts.clear();
            for (int start : starts) {
                Integer next = starts.higher(start);
                int sum = 0;
                for (int p : lengths.subMap(start, next == null ? code.size() : next).keySet()) {
                    int op = code.get(p);
                    sum += costs[op == 196 ? code.get(p + 1) : op];
                }
                blockCosts.put(start, sum);
            }
        }

        static void put(List<Integer> to, long v, int octets) {
            for (int i = octets - 1; i >= 0; i--) {
                to.add((int) (v >> (8 * i)) & 255);
            }
        }

        void putCall(Rewritten r, int which) {
            r.octets.add(184);
            put(r.octets, base + which, 2);
            r.about[6]++;
        }

        void putFront(Rewritten r, int p) {
            for (int[] h : handlers) {
                if (h[2] == p && (h[3] == 0 || marked.contains(h[3]))) {
                    r.octets.add(89);
                    r.about[7]++;
                    putCall(r, 4);
                    break;
                }
            }
            int sum = blockCosts.getOrDefault(p, 0);
            if (sum > 0) {
                if (sum < 6) {
                    r.octets.add(3 + sum);
                } else if (sum < 128) {
                    r.octets.addAll(List.of(16, sum));
                } else {
                    r.octets.addAll(List.of(17, sum / 256, sum % 256));
                }
                r.about[7]++;
                putCall(r, 0);
            }
            int op = code.get(p);
            if (op >= 172 && op <= 177) {
                putCall(r, 3);
            }
            if (op == 188 || op == 189) {
                r.octets.add(89);
                r.about[7]++;
                putCall(r, 1);
            }
        }

        static int opposite(int op) {
            int[][] pairs = {{153, 154}, {155, 156}, {157, 158}, {159, 160}, {161, 162}, {163, 164},
                {165, 166}, {198, 199}};
            for (int[] pair : pairs) {
                if (pair[0] == op) {
                    return pair[1];
                }
                if (pair[1] == op) {
                    return pair[0];
                }
            }
            throw new IllegalStateException();
        }

        /** Fronts that are not known yet count as 0; only the octets' values hang on them. */
        static int frontIn(Rewritten before, long goal) {
            return before == null ? 0 : before.moved.get((int) goal)[0];
        }

        void putInstruction(Rewritten r, int p, Rewritten before) {
            int op = code.get(p);
            int here = r.octets.size();
            if (farPlaces.contains(p) || op == 200) {
                if (op != 167 && op != 200) {
                    r.octets.add(opposite(op));
                    put(r.octets, 8, 2);
                }
                int from = r.octets.size();
                r.octets.add(200);
                put(r.octets, frontIn(before, goals(p).get(0)) - from, 4);
            } else if (isShort(op)) {
                r.octets.add(op);
                put(r.octets, frontIn(before, goals(p).get(0)) - here, 2);
            } else if (op == 170 || op == 171) {
                r.octets.add(op);
                while (r.octets.size() % 4 != 0) {
                    r.octets.add(0);
                }
                List<Integer> slots = switchSlots(p);
                for (int at = firstWord(p); at < p + lengths.get(p); at += 4) {
                    long v = signed(at, 4);
                    put(r.octets, slots.contains(at) ? frontIn(before, p + v) - here : v, 4);
                }
            } else {
                r.octets.addAll(code.subList(p, p + lengths.get(p)));
            }
        }

        Rewritten writeAll(Rewritten before) {
            Rewritten r = new Rewritten();
            for (int p : lengths.keySet()) {
                int first = r.octets.size();
                if (p == 0) {
                    putCall(r, 2);
                }
                int front = r.octets.size();
                putFront(r, p);
                int spot = r.octets.size();
                putInstruction(r, p, before);
                boolean far = farPlaces.contains(p) || code.get(p) == 200;
                r.moved.put(p, new int[] {front, spot, r.octets.size() - first,
                    blockCosts.getOrDefault(p, -1), far ? 1 : 0});
            }
            r.end = r.octets.size();
            return r;
        }

        /** A jump that is far once stays so, even where it would reach again. */
        boolean makeFar(Rewritten r) {
            int before = farPlaces.size();
            for (int p : lengths.keySet()) {
                if (isShort(code.get(p))) {
                    int d = frontIn(r, goals(p).get(0)) - r.moved.get(p)[1];
                    if (Math.abs(d) > reach) {
                        farPlaces.add(p);
                    }
                }
            }
            return farPlaces.size() > before;
        }

        int rewritten() {
            last = null;
            if (!formed()) {
                return 1;
            }
            findBlocks();
            farPlaces.clear();
            int rounds = 1;
            Rewritten r = writeAll(null);
            while (makeFar(r)) {
                r = writeAll(null);
                rounds++;
            }
            r = writeAll(r);
            if (r.octets.size() > 1200) {
                return 2;
            }
            finish(r, rounds);
            last = r;
            times++;
            return 0;
        }

        void finish(Rewritten r, int rounds) {
            r.about[0] = r.octets.size();
            r.about[1] = lengths.size();
            r.about[2] = blockCosts.size();
            r.about[3] = rounds;
            r.about[4] = farPlaces.size();
            for (int sum : blockCosts.values()) {
                r.about[5] += sum;
            }
            for (int[] h : handlers) {
                int to = h[1] == code.size() ? r.end : r.moved.get(h[1])[0];
                r.guards.add(new int[] {r.moved.get(h[0])[0], to, r.moved.get(h[2])[0], h[3]});
            }
        }
    }

    /** One object beside one reference. */
    private static final class Run {
        private final int seed;
        private final Dice dice;
        private final MeterDesk desk = new MeterDesk();
        private final Reference ref = new Reference();
        private int calls = 0;

        Run(int seed) {
            this.seed = seed;
            this.dice = new Dice(seed);
        }

        private void due(String call, long got, long want) {
            calls++;
            if (got != want) {
                wrong++;
                System.out.println("seed " + seed + ", call " + calls + ": " + call + " answered " + got
                    + ", due is " + want);
            }
        }

        void go() {
            int kind = dice.below(6);
            while (calls < CALLS - 60) {
                if (ref.last == null || dice.once(90)) {
                    loadMethod(kind);
                } else if (dice.once(12)) {
                    meddle();
                } else if (dice.once(25)) {
                    rewrite();
                } else {
                    ask();
                }
            }
        }

        private void rewrite() {
            int want = ref.rewritten();
            due("rewrite()", desk.rewrite(), want);
            answered[want]++;
            if (ref.last != null) {
                farSeen = Math.max(farSeen, ref.last.about[4]);
                roundsSeen = Math.max(roundsSeen, ref.last.about[3]);
            }
        }

        private void loadMethod(int kind) {
            due("clear()", desk.clear(), ref.code.size());
            ref.code.clear();
            ref.handlers.clear();
            List<Integer> octets = new ArrayList<>(new Maker(dice, kind).method());
            for (int i = 0; i < octets.size(); i += 8) {
                List<Integer> part = octets.subList(i, Math.min(octets.size(), i + 8));
                feed(part);
            }
            List<Integer> places = starts();
            int n = dice.below(5);
            for (int i = 0; i < n && !places.isEmpty(); i++) {
                addHandler(places);
            }
            if (dice.once(2)) {
                setBoth(dice.below(65531), dice.among(4, 5, 8, 20, 30, 50, 80, 120, 200, 400, 32767));
            }
            if (dice.once(8)) {
                setBoth(dice.among(-1, 0, 65530, 65531), dice.among(3, 4, 32767, 32768));
            }
            rewrite();
        }

        private void feed(List<Integer> part) {
            long w = 0;
            for (int k = 0; k < 8; k++) {
                int octet = k < part.size() ? part.get(k) : dice.below(256);
                w = w << 8 | octet;
            }
            ref.code.addAll(part);
            due("code", desk.code(w, part.size()), ref.code.size());
        }

        private List<Integer> starts() {
            List<Integer> places = new ArrayList<>();
            if (ref.formed()) {
                places.addAll(ref.lengths.keySet());
            }
            return places;
        }

        private void addHandler(List<Integer> places) {
            int a = places.get(dice.below(places.size()));
            int b = dice.once(3) ? ref.code.size() : places.get(dice.below(places.size()));
            int at = places.get(dice.below(places.size()));
            int from = Math.min(a, b);
            int to = dice.once(60) ? from : Math.max(a, b);
            if (from == to && !dice.once(20)) {
                to = ref.code.size();
            }
            giveHandler(from, to, at, dice.among(0, 1, 2, 255));
        }

        private void giveHandler(int from, int to, int at, int caught) {
            boolean bad = caught < 0 || caught > 255;
            for (int place : new int[] {from, to, at}) {
                bad |= place < 0 || place > 200;
            }
            int want = bad ? -1 : ref.handlers.size() >= 4 ? -2 : ref.handlers.size() + 1;
            if (want > 0) {
                ref.handlers.add(new int[] {from, to, at, caught});
            }
            due("handler", desk.handler(from, to, at, caught), want);
        }

        private void setBoth(int base, int reach) {
            boolean fine = base >= 0 && base <= 65530 && reach >= 4 && reach <= 32767;
            if (fine) {
                ref.base = base;
                ref.reach = reach;
            }
            due("set(" + base + ", " + reach + ")", desk.set(base, reach) ? 1 : 0, fine ? 1 : 0);
        }

        private void meddle() {
            switch (dice.below(6)) {
                case 0: {
                    int c = dice.among(-1, 0, 1, 2, 255, 256);
                    boolean on = dice.once(2);
                    boolean fine = c >= 1 && c <= 255;
                    if (fine && on) {
                        ref.marked.add(c);
                    } else {
                        ref.marked.remove(c);
                    }
                    due("mark(" + c + ", " + on + ")", desk.mark(c, on) ? 1 : 0, fine ? 1 : 0);
                    break;
                }
                case 1: {
                    int op = dice.once(10) ? dice.among(-1, 201) : dice.below(201);
                    int n = dice.once(10) ? dice.among(-1, 100) : dice.among(0, 1, 2, 9, 40, 99);
                    boolean fine = op >= 0 && op <= 200 && n >= 0 && n <= 99;
                    int want = fine ? ref.costs[op] : -1;
                    if (fine) {
                        ref.costs[op] = n;
                    }
                    due("cost(" + op + ", " + n + ")", desk.cost(op, n), want);
                    break;
                }
                case 2: {
                    int k = dice.below(Math.max(1, ref.code.size() + 2)) - 1;
                    int v = dice.once(12) ? dice.among(-1, 256) : dice.among(0, 87, dice.below(256));
                    boolean fine = k >= 0 && k < ref.code.size() && v >= 0 && v <= 255;
                    int want = fine ? ref.code.get(k) : -1;
                    if (fine && !dice.once(3)) {
                        v = ref.code.get(k);
                    }
                    if (fine) {
                        ref.code.set(k, v);
                    }
                    due("change(" + k + ", " + v + ")", desk.change(k, v), want);
                    break;
                }
                case 3:
                    giveHandler(dice.below(203) - 1, dice.below(203) - 1, dice.below(203) - 1, dice.below(258) - 1);
                    break;
                case 4: {
                    int n = dice.below(11) - 1;
                    boolean bad = n < 1 || n > 8;
                    int want = bad ? -1 : ref.code.size() + n > 200 ? -2 : ref.code.size() + n;
                    for (int i = 0; i < n && want > 0; i++) {
                        ref.code.add(0);
                    }
                    due("code(0, " + n + ")", desk.code(0L, n), want);
                    break;
                }
                default:
                    setBoth(dice.below(65533) - 1, dice.among(3, 4, 6, 11, 40, 100, 500, 32767, 32768));
                    break;
            }
        }

        private void ask() {
            Rewritten r = ref.last;
            switch (dice.below(7)) {
                case 0: case 1: {
                    int k = dice.below(r == null ? 3 : r.octets.size() + 3) - 1;
                    boolean there = r != null && k >= 0 && k < r.octets.size();
                    due("octet(" + k + ")", desk.octet(k), there ? r.octets.get(k) : -1);
                    break;
                }
                case 2: {
                    int place = dice.below(r == null ? 203 : r.moved.size() * 3 + 3) - 1;
                    int what = dice.below(20) == 0 ? dice.among(-1, 5) : dice.below(5);
                    boolean there = r != null && r.moved.containsKey(place) && what >= 0 && what <= 4;
                    due("moved(" + place + ", " + what + ")", desk.moved(place, what),
                        there ? r.moved.get(place)[what] : -1);
                    break;
                }
                case 3: {
                    int place = dice.below(r == null ? 10 : r.octets.size() + 3) - 1;
                    int want = -1;
                    for (Map.Entry<Integer, int[]> e : (r == null ? new Rewritten() : r).moved.entrySet()) {
                        want = e.getValue()[1] == place ? e.getKey() : want;
                    }
                    due("back(" + place + ")", desk.back(place), want);
                    break;
                }
                case 4: {
                    int h = dice.below(6) - 1;
                    int what = dice.below(6) - 1;
                    boolean there = r != null && h >= 0 && h < r.guards.size() && what >= 0 && what < 4;
                    due("guard(" + h + ", " + what + ")", desk.guard(h, what), there ? r.guards.get(h)[what] : -1);
                    break;
                }
                case 5: {
                    int what = dice.below(10) - 1;
                    int want = what < 0 || what > 7 ? -1 : r == null ? 0 : r.about[what];
                    due("about(" + what + ")", desk.about(what), want);
                    break;
                }
                default: {
                    int what = dice.below(5) - 1;
                    int[] counts = {ref.code.size(), ref.handlers.size(), ref.times};
                    due("count(" + what + ")", desk.count(what), what < 0 || what > 2 ? -1 : counts[what]);
                    break;
                }
            }
        }
    }

    /** Makes methods whose instructions are whole and whose goals mostly stand, or (RAW) mere octets. */
    private static final class Maker {
        private static final int RAW = 5;

        private final Dice dice;
        private final int kind;
        private final List<Integer> octets = new ArrayList<>();
        private final List<Integer> starts = new ArrayList<>();
        /** Where a distance stands: place, how many octets, and from where. */
        private final List<int[]> slots = new ArrayList<>();

        Maker(Dice dice, int kind) {
            this.dice = dice;
            this.kind = kind;
        }

        List<Integer> method() {
            return kind == RAW ? mereOctets() : wholeMethod();
        }

        /** Mostly wrong in form, but with the octets that make it right often enough. */
        private List<Integer> mereOctets() {
            int size = dice.among(1, 2, 3, 5, 8, 12, 20, 40, 200);
            for (int i = 0; i < size; i++) {
                octets.add(dice.among(0, 0, 0, 0, 1, 3, 4, 8, 20, 21, 132, 153, 166, 167, 168, 170, 170,
                    171, 171, 172, 188, 189, 191, 196, 198, 199, 200, 254, 255, dice.below(256)));
            }
            return octets;
        }

        private List<Integer> wholeMethod() {
            int size = dice.among(1, 3, 10, 30, 60, 100, 150, 200, 200);
            boolean more = true;
            while (more) {
                int before = octets.size();
                int slotsBefore = slots.size();
                starts.add(before);
                instruction();
                if (octets.size() > size) {
                    octets.subList(before, octets.size()).clear();
                    slots.subList(slotsBefore, slots.size()).clear();
                    starts.remove(starts.size() - 1);
                    more = false;
                }
            }
            for (int[] slot : slots) {
                int goal = dice.once(400) ? dice.below(200) : starts.get(dice.below(starts.size()));
                int distance = goal - slot[2];
                for (int i = 0; i < slot[1]; i++) {
                    octets.set(slot[0] + i, distance >> (8 * (slot[1] - 1 - i)) & 255);
                }
            }
            if (octets.isEmpty() && !dice.once(10)) {
                octets.add(177);
            }
            return octets;
        }

        private void instruction() {
            int first = octets.size();
            int op = opcode();
            octets.add(op);
            if (op == 196) {
                wide();
            } else if (op == 170 || op == 171) {
                table(first, op);
            } else {
                int n = Reference.behind(op);
                if (Reference.isShort(op) || op == 200) {
                    slots.add(new int[] {first + 1, n, first});
                }
                fill(n);
            }
        }

        private int opcode() {
            switch (kind) {
                case 0:
                    return dice.among(153, 160, 167, 198, 199, 0, 153 + dice.below(15), 200);
                case 1:
                    return dice.among(172 + dice.below(6), 188, 189, 191, 0, 167, 177, 176);
                case 2:
                    return dice.once(9) ? dice.among(0, 188, 167) : 172 + dice.below(6);
                case 3:
                    return dice.among(170, 171, 0, 0, 167, 153, 177, 196, dice.below(168));
                default:
                    int op = dice.below(dice.once(200) ? 256 : 201);
                    return (op == 168 || op == 169) && !dice.once(50) ? 0 : op;
            }
        }

        private void wide() {
            int op = dice.once(60) ? dice.below(256)
                : dice.among(21, 22, 23, 24, 25, 54, 55, 56, 57, 58, 132, 132);
            octets.add(op);
            fill(op == 132 ? 4 : 2);
        }

        private void table(int first, int op) {
            while (octets.size() % 4 != 0) {
                octets.add(dice.below(256));
            }
            slot(first);
            int n = dice.once(100) ? dice.among(0, 21, 20) : 1 + dice.below(5);
            if (op == 170) {
                int low = dice.among(0, -3, Integer.MIN_VALUE, Integer.MAX_VALUE, dice.below(1000000));
                word(low);
                word(low + n - 1);
            } else {
                word(n);
            }
            for (int i = 0; i < n; i++) {
                if (op == 171) {
                    fill(4);
                }
                slot(first);
            }
        }

        private void slot(int first) {
            slots.add(new int[] {octets.size(), 4, first});
            word(0);
        }

        private void word(int v) {
            Reference.put(octets, v, 4);
        }

        private void fill(int n) {
            for (int i = 0; i < n; i++) {
                octets.add(dice.below(256));
            }
        }
    }
}
