import java.util.Arrays;

/**
 * Rewrites the octets of a method so that they pay for what they do.
 * The numbered promises of the document say what each call answers.
 */
public final class MeterDesk {
    public static final int REFUSED = -1, FULL = -2;

    private static final int MOST_OCTETS = 200;
    private static final int MOST_HANDLERS = 4;
    private static final int MOST_ENTRIES = 20;
    private static final int MOST_REWRITTEN = 1200;
    private static final int HIGHEST_OPCODE = 200;
    private static final int HIGHEST_COST = 99;
    private static final int HIGHEST_BASE = 65530;
    private static final int LEAST_REACH = 4, MOST_REACH = 32767;

    private static final int WRONG_FORM = 1, TOO_LONG = 2;

    private final Source source;
    private final Tariff tariff;
    private final Layout layout;
    private final Output output;
    private int timesRewritten;

    public MeterDesk() {
        Source given = new Source();
        Tariff asked = new Tariff();
        Layout planned = new Layout(given, asked);
        source = given;
        tariff = asked;
        layout = planned;
        output = new Output(given, asked, planned);
    }

    public int code(long w, int n) {
        if (n < 1 || n > 8) {
            return REFUSED;
        }
        if (source.size + n > MOST_OCTETS) {
            return FULL;
        }
        for (int i = 0; i < n; i++) {
            source.append((int) (w >>> (56 - 8 * i)) & 255);
        }
        return source.size;
    }

    public int change(int k, int v) {
        if (k < 0 || k >= source.size || !isOctet(v)) {
            return REFUSED;
        }
        int before = source.octets[k];
        source.octets[k] = v;
        return before;
    }

    public int clear() {
        int before = source.size;
        source.size = 0;
        source.handlers = 0;
        return before;
    }

    public int handler(int from, int to, int at, int caught) {
        if (!isOctet(caught) || !isPlace(from) || !isPlace(to) || !isPlace(at)) {
            return REFUSED;
        }
        if (source.handlers >= MOST_HANDLERS) {
            return FULL;
        }
        source.appendHandler(from, to, at, caught);
        return source.handlers;
    }

    public boolean mark(int c, boolean dangerous) {
        if (c < 1 || c > 255) {
            return false;
        }
        tariff.marked[c] = dangerous;
        return true;
    }

    public int cost(int op, int n) {
        if (op < 0 || op > HIGHEST_OPCODE || n < 0 || n > HIGHEST_COST) {
            return REFUSED;
        }
        int before = tariff.costs[op];
        tariff.costs[op] = n;
        return before;
    }

    public boolean set(int base, int reach) {
        if (base < 0 || base > HIGHEST_BASE || reach < LEAST_REACH || reach > MOST_REACH) {
            return false;
        }
        tariff.base = base;
        tariff.reach = reach;
        return true;
    }

    public int rewrite() {
        output.forget();
        int wrong = layout.make();
        if (wrong == 0) {
            output.write();
            timesRewritten++;
        }
        return wrong;
    }

    public int octet(int k) {
        return k >= 0 && k < output.size ? output.octets[k] : REFUSED;
    }

    public int moved(int place, int what) {
        if (!layout.begins(place)) {
            return REFUSED;
        }
        switch (what) {
            case 0: return layout.front[place];
            case 1: return layout.spot[place];
            case 2: return layout.lead[place] + layout.newLength[place];
            case 3: return layout.blockCost[place];
            case 4: return layout.far[place] ? 1 : 0;
            default: return REFUSED;
        }
    }

    public int back(int place) {
        for (int i = 0; i < layout.instructions; i++) {
            int old = layout.places[i];
            if (layout.spot[old] == place) {
                return old;
            }
        }
        return -1;
    }

    public int guard(int h, int what) {
        if (h < 0 || h >= output.guards || what < 0 || what >= Source.PARTS) {
            return REFUSED;
        }
        return output.guardParts[h * Source.PARTS + what];
    }

    public int about(int what) {
        switch (what) {
            case 0: return output.size;
            case 1: return layout.instructions;
            case 2: return layout.blocks;
            case 3: return layout.rounds;
            case 4: return layout.stretched;
            case 5: return layout.costSum;
            case 6: return output.calls;
            case 7: return output.pushes;
            default: return REFUSED;
        }
    }

    public int count(int what) {
        switch (what) {
            case 0: return source.size;
            case 1: return source.handlers;
            case 2: return timesRewritten;
            default: return REFUSED;
        }
    }

    private static boolean isOctet(int v) {
        return v >= 0 && v <= 255;
    }

    private static boolean isPlace(int place) {
        return place >= 0 && place <= MOST_OCTETS;
    }

    /** What is known of an opcode alone. */
    private static final class Opcodes {
        static final int DUPLICATE = 89, INCREASE = 132, GOTO = 167, TABLE = 170, LOOKUP = 171;
        static final int CALL = 184, WIDE = 196, FAR_GOTO = 200;
        static final int PUSH_ZERO = 3, PUSH_ONE_OCTET = 16, PUSH_TWO_OCTETS = 17;

        private Opcodes() {
        }

        static boolean exists(int op) {
            return op >= 0 && op <= HIGHEST_OPCODE && op != 168 && op != 169;
        }

        static boolean isShortJump(int op) {
            return op >= 153 && op <= GOTO || op == 198 || op == 199;
        }

        static boolean isSwitch(int op) {
            return op == TABLE || op == LOOKUP;
        }

        static boolean isReturn(int op) {
            return op >= 172 && op <= 177;
        }

        static boolean makesArray(int op) {
            return op == 188 || op == 189;
        }

        static boolean endsBlock(int op) {
            return isShortJump(op) || isSwitch(op) || isReturn(op) || op == 191 || op == FAR_GOTO;
        }

        /** 21..25 and 54..58, which a 196 may stand in front of. */
        static boolean isLocal(int op) {
            return op >= 21 && op <= 25 || op >= 54 && op <= 58;
        }

        /** How many octets stand behind an opcode that is neither 196 nor a switch. */
        static int operands(int op) {
            switch (op) {
                case 16: case 18: case 188:
                    return 1;
                case 17: case 19: case 20: case INCREASE: case 187: case 189: case 192: case 193:
                    return 2;
                case 197:
                    return 3;
                case 185: case 186: case FAR_GOTO:
                    return 4;
                default:
                    break;
            }
            if (isLocal(op)) {
                return 1;
            }
            return isShortJump(op) || op >= 178 && op <= CALL ? 2 : 0;
        }

        /** The pairs begin at the odd 153 and at the even 198. */
        static int opposite(int op) {
            return op < GOTO ? ((op - 153) ^ 1) + 153 : op ^ 1;
        }

        /** Whether word w behind the zeros of a switch is a distance. */
        static boolean isGoalWord(int op, int w) {
            return w == 0 || w >= 3 && (op == TABLE || w % 2 == 1);
        }
    }

    /** The CODE and the HANDLERS as they were given. */
    private static final class Source {
        static final int FROM = 0, TO = 1, AT = 2, CAUGHT = 3, PARTS = 4;

        final int[] octets = new int[MOST_OCTETS];
        final int[] handlerParts = new int[MOST_HANDLERS * PARTS];
        int size;
        int handlers;

        void append(int octet) {
            if (size < MOST_OCTETS) {
                octets[size++] = octet;
            }
        }

        void appendHandler(int from, int to, int at, int caught) {
            if (handlers < MOST_HANDLERS) {
                int first = handlers * PARTS;
                handlerParts[first + FROM] = from;
                handlerParts[first + TO] = to;
                handlerParts[first + AT] = at;
                handlerParts[first + CAUGHT] = caught;
                handlers++;
            }
        }

        int part(int h, int what) {
            return handlerParts[h * PARTS + what];
        }

        /** Zero behind the end, so that a cut instruction can be measured before it is refused. */
        int u1(int k) {
            return k >= 0 && k < size ? octets[k] : 0;
        }

        int s2(int k) {
            return (short) (u1(k) << 8 | u1(k + 1));
        }

        int s4(int k) {
            return u1(k) << 24 | u1(k + 1) << 16 | u1(k + 2) << 8 | u1(k + 3);
        }

        /** The length of the INSTRUCTION at a place; 0 if there is none, or the end cuts it. */
        int lengthAt(int place) {
            int op = u1(place);
            int length;
            if (!Opcodes.exists(op)) {
                length = 0;
            } else if (op == Opcodes.WIDE) {
                length = wideLength(u1(place + 1));
            } else if (Opcodes.isSwitch(op)) {
                length = switchLength(place, op);
            } else {
                length = 1 + Opcodes.operands(op);
            }
            return place + length <= size ? length : 0;
        }

        private int wideLength(int widened) {
            if (widened == Opcodes.INCREASE) {
                return 6;
            }
            return Opcodes.isLocal(widened) ? 4 : 0;
        }

        /** In long, because HIGH - LOW may leave the range of int. */
        private int switchLength(int place, int op) {
            int words = wordsFrom(place);
            boolean table = op == Opcodes.TABLE;
            long entries = table ? (long) s4(words + 8) - s4(words + 4) + 1 : s4(words + 4);
            if (entries < (table ? 1 : 0) || entries > MOST_ENTRIES) {
                return 0;
            }
            int behind = table ? 12 + 4 * (int) entries : 8 + 8 * (int) entries;
            return words - place + behind;
        }

        /** Where the words of a switch at a place begin, behind its zeros. */
        static int wordsFrom(int place) {
            return (place + 4) & ~3;
        }

        /** A sum that leaves the range of int comes out below 0, and no instruction begins there. */
        int jumpGoal(int place) {
            return place + (u1(place) == Opcodes.FAR_GOTO ? s4(place + 1) : s2(place + 1));
        }

        int wordGoal(int place, int w) {
            return place + s4(wordsFrom(place) + 4 * w);
        }
    }

    /** What things cost, what is marked, and the two settings. */
    private static final class Tariff {
        final int[] costs = new int[HIGHEST_OPCODE + 1];
        final boolean[] marked = new boolean[256];
        int base = 1000;
        int reach = MOST_REACH;

        Tariff() {
            Arrays.fill(costs, 1);
        }

        boolean isDangerous(int caught) {
            return caught == 0 || marked[caught];
        }
    }

    /**
     * Where all stands after rewriting. The rows are by old places; those that answer later calls
     * are kept here, because the CODE may change in between.
     */
    private static final class Layout {
        static final int CALL_LENGTH = 3;

        final Source source;
        final Tariff tariff;
        final int[] places = new int[MOST_OCTETS];
        final int[] length = new int[MOST_OCTETS + 1];
        final int[] newLength = new int[MOST_OCTETS + 1];
        final int[] blockCost = new int[MOST_OCTETS + 1];
        final boolean[] looks = new boolean[MOST_OCTETS + 1];
        final int[] lead = new int[MOST_OCTETS + 1];
        /** Has the new end too, at the old end. */
        final int[] front = new int[MOST_OCTETS + 1];
        final int[] spot = new int[MOST_OCTETS + 1];
        final boolean[] far = new boolean[MOST_OCTETS + 1];
        int instructions;
        int blocks;
        int rounds;
        int stretched;
        int costSum;

        Layout(Source source, Tariff tariff) {
            this.source = source;
            this.tariff = tariff;
        }

        boolean begins(int place) {
            return place >= 0 && place <= MOST_OCTETS && length[place] > 0;
        }

        /** 0, or what is wrong; then nothing is kept. */
        int make() {
            forget();
            int wrong = WRONG_FORM;
            if (readInstructions() && readGoals() && readHandlers()) {
                sumBlocks();
                measureLeads();
                settle();
                wrong = front[source.size] > MOST_REWRITTEN ? TOO_LONG : 0;
            }
            if (wrong != 0) {
                forget();
            }
            return wrong;
        }

        private void forget() {
            Arrays.fill(length, 0);
            Arrays.fill(blockCost, -1);
            for (int p = 0; p <= MOST_OCTETS; p++) {
                looks[p] = false;
                far[p] = false;
            }
            instructions = 0;
            blocks = 0;
            rounds = 0;
            stretched = 0;
            costSum = 0;
        }

        private boolean readInstructions() {
            int next = 0;
            for (int i = 0; i < MOST_OCTETS && next < source.size; i++) {
                int p = next;
                length[p] = source.lengthAt(p);
                if (length[p] == 0) {
                    return false;
                }
                far[p] = source.u1(p) == Opcodes.FAR_GOTO;
                places[i] = p;
                instructions = i + 1;
                next = p + length[p];
            }
            return instructions > 0;
        }

        private boolean readGoals() {
            for (int i = 0; i < instructions; i++) {
                int p = places[i];
                int op = source.u1(p);
                boolean found = true;
                if (Opcodes.isSwitch(op)) {
                    found = readWordGoals(p, op);
                } else if (Opcodes.isShortJump(op) || op == Opcodes.FAR_GOTO) {
                    found = beginBlock(source.jumpGoal(p));
                }
                if (!found) {
                    return false;
                }
            }
            return true;
        }

        private boolean readWordGoals(int p, int op) {
            int words = wordsOf(p);
            for (int w = 0; w < words; w++) {
                if (Opcodes.isGoalWord(op, w) && !beginBlock(source.wordGoal(p, w))) {
                    return false;
                }
            }
            return true;
        }

        /** How many words the switch at an old place has behind its zeros. */
        int wordsOf(int p) {
            return (p + length[p] - Source.wordsFrom(p)) / 4;
        }

        /** False if no INSTRUCTION begins there, so that no BLOCK can. */
        private boolean beginBlock(int place) {
            if (!begins(place)) {
                return false;
            }
            blockCost[place] = 0;
            return true;
        }

        private boolean readHandlers() {
            for (int h = 0; h < source.handlers; h++) {
                int from = source.part(h, Source.FROM);
                int to = source.part(h, Source.TO);
                int at = source.part(h, Source.AT);
                boolean toStands = begins(to) || to == source.size;
                if (!begins(from) || !toStands || from >= to || !beginBlock(at)) {
                    return false;
                }
                if (tariff.isDangerous(source.part(h, Source.CAUGHT))) {
                    looks[at] = true;
                }
            }
            return true;
        }

        private void sumBlocks() {
            int block = 0;
            boolean ended = true;
            for (int i = 0; i < instructions; i++) {
                int p = places[i];
                int op = source.u1(p);
                if (ended || blockCost[p] >= 0) {
                    block = p;
                    blockCost[p] = 0;
                    blocks++;
                }
                int price = tariff.costs[op == Opcodes.WIDE ? source.u1(p + 1) : op];
                blockCost[block] += price;
                costSum += price;
                ended = Opcodes.endsBlock(op);
            }
        }

        private void measureLeads() {
            for (int i = 0; i < instructions; i++) {
                int p = places[i];
                int op = source.u1(p);
                lead[p] = (p == 0 ? CALL_LENGTH : 0)
                    + (looks[p] ? 1 + CALL_LENGTH : 0)
                    + (blockCost[p] > 0 ? pushLength(blockCost[p]) + CALL_LENGTH : 0)
                    + (Opcodes.isReturn(op) ? CALL_LENGTH : 0)
                    + (Opcodes.makesArray(op) ? 1 + CALL_LENGTH : 0);
            }
        }

        private static int pushLength(int sum) {
            if (sum <= 5) {
                return 1;
            }
            return sum <= 127 ? 2 : 3;
        }

        /** Each round but the last makes a jump far, so there are never more rounds than octets. */
        private void settle() {
            boolean again = true;
            while (again && rounds <= MOST_OCTETS) {
                rounds++;
                givePlaces();
                again = stretchJumps();
            }
        }

        private void givePlaces() {
            int next = 0;
            for (int i = 0; i < instructions; i++) {
                int p = places[i];
                front[p] = next + (p == 0 ? CALL_LENGTH : 0);
                spot[p] = next + lead[p];
                newLength[p] = lengthAtSpot(p);
                next = spot[p] + newLength[p];
            }
            front[source.size] = next;
        }

        private int lengthAtSpot(int p) {
            int op = source.u1(p);
            if (Opcodes.isSwitch(op)) {
                return Source.wordsFrom(spot[p]) - spot[p] + 4 * wordsOf(p);
            }
            if (far[p]) {
                return op == Opcodes.GOTO || op == Opcodes.FAR_GOTO ? 5 : 8;
            }
            return length[p];
        }

        /** All distances are of this round's places; true if a jump became far. */
        private boolean stretchJumps() {
            int before = stretched;
            for (int i = 0; i < instructions; i++) {
                int p = places[i];
                if (!far[p] && Opcodes.isShortJump(source.u1(p))) {
                    int distance = front[source.jumpGoal(p)] - spot[p];
                    if (distance < -tariff.reach || distance > tariff.reach) {
                        far[p] = true;
                        stretched++;
                    }
                }
            }
            return stretched > before;
        }
    }

    /** The rewritten octets and handlers, and what was counted while they were written. */
    private static final class Output {
        static final int CHARGE = 0, SIZE = 1, ENTER = 2, LEAVE = 3, LOOK = 4;

        final Source source;
        final Tariff tariff;
        final Layout layout;
        final int[] octets = new int[MOST_REWRITTEN];
        final int[] guardParts = new int[MOST_HANDLERS * Source.PARTS];
        int size;
        int guards;
        int calls;
        int pushes;

        Output(Source source, Tariff tariff, Layout layout) {
            this.source = source;
            this.tariff = tariff;
            this.layout = layout;
        }

        void forget() {
            size = 0;
            guards = 0;
            calls = 0;
            pushes = 0;
        }

        /** Writes what a layout that was made without fault says. */
        void write() {
            for (int i = 0; i < layout.instructions; i++) {
                int p = layout.places[i];
                writeLead(p);
                writeInstruction(p);
            }
            writeGuards();
        }

        private void writeLead(int p) {
            int op = source.u1(p);
            if (p == 0) {
                putCall(ENTER);
            }
            if (layout.looks[p]) {
                putDuplicate();
                putCall(LOOK);
            }
            if (layout.blockCost[p] > 0) {
                putCost(layout.blockCost[p]);
                putCall(CHARGE);
            }
            if (Opcodes.isReturn(op)) {
                putCall(LEAVE);
            }
            if (Opcodes.makesArray(op)) {
                putDuplicate();
                putCall(SIZE);
            }
        }

        private void writeInstruction(int p) {
            int op = source.u1(p);
            if (Opcodes.isSwitch(op)) {
                writeSwitch(p, op);
            } else if (layout.far[p]) {
                writeFarJump(p, op);
            } else if (Opcodes.isShortJump(op)) {
                put1(op);
                put2(layout.front[source.jumpGoal(p)] - layout.spot[p]);
            } else {
                for (int k = 0; k < layout.length[p]; k++) {
                    put1(source.u1(p + k));
                }
            }
        }

        private void writeFarJump(int p, int op) {
            if (op != Opcodes.GOTO && op != Opcodes.FAR_GOTO) {
                put1(Opcodes.opposite(op));
                put2(8);
            }
            int here = size;
            put1(Opcodes.FAR_GOTO);
            put4(layout.front[source.jumpGoal(p)] - here);
        }

        private void writeSwitch(int p, int op) {
            put1(op);
            int zeros = Source.wordsFrom(layout.spot[p]) - layout.spot[p] - 1;
            for (int k = 0; k < zeros; k++) {
                put1(0);
            }
            int words = layout.wordsOf(p);
            for (int w = 0; w < words; w++) {
                if (Opcodes.isGoalWord(op, w)) {
                    put4(layout.front[source.wordGoal(p, w)] - layout.spot[p]);
                } else {
                    put4(source.s4(Source.wordsFrom(p) + 4 * w));
                }
            }
        }

        private void writeGuards() {
            for (int h = 0; h < source.handlers; h++) {
                int first = h * Source.PARTS;
                for (int part = Source.FROM; part <= Source.AT; part++) {
                    guardParts[first + part] = layout.front[source.part(h, part)];
                }
                guardParts[first + Source.CAUGHT] = source.part(h, Source.CAUGHT);
            }
            guards = source.handlers;
        }

        private void putCall(int which) {
            put1(Opcodes.CALL);
            put2(tariff.base + which);
            calls++;
        }

        private void putDuplicate() {
            put1(Opcodes.DUPLICATE);
            pushes++;
        }

        private void putCost(int sum) {
            if (sum <= 5) {
                put1(Opcodes.PUSH_ZERO + sum);
            } else if (sum <= 127) {
                put1(Opcodes.PUSH_ONE_OCTET);
                put1(sum);
            } else {
                put1(Opcodes.PUSH_TWO_OCTETS);
                put2(sum);
            }
            pushes++;
        }

        private void put1(int v) {
            if (size < MOST_REWRITTEN) {
                octets[size++] = v & 255;
            }
        }

        private void put2(int v) {
            put1(v >> 8);
            put1(v);
        }

        private void put4(int v) {
            put2(v >> 16);
            put2(v);
        }
    }
}
