import java.util.Arrays;

/** For each promise: ordinary inputs, the edges that the document names, and wrong inputs. */
public final class PromiseTests extends DeskTest {
    private static final int ENTER_HIGH = 3, CHARGE_LOW = 232, SIZE_LOW = 233, ENTER_LOW = 234;
    private static final int LEAVE_LOW = 235, LOOK_LOW = 236;

    public static void main(String[] args) {
        newObject();
        codeTakesHighestFirst();
        codeEdges();
        changeEdges();
        clearKeepsTheRest();
        handlerEdges();
        markEdges();
        costEdges();
        costForms();
        costOfWide();
        setEdges();
        instructionLengths();
        cutAtTwoHundred();
        wrongInstructions();
        wideForms();
        tableEdges();
        lookupEdges();
        wrongGoals();
        wrongHandlers();
        longEdge();
        failureForgets();
        octetEdges();
        orderInFront();
        blockBegins();
        nearJumps();
        reachEdges();
        opposites();
        farGotoAndFarGotoWide();
        roundsCascade();
        switchPadding();
        switchRewritten();
        movedAnswers();
        backAnswers();
        guardAnswers();
        aboutAnswers();
        countAnswers();
        end();
    }

    // Promise 1

    private static void newObject() {
        MeterDesk desk = new MeterDesk();
        for (int what = 0; what <= 7; what++) {
            due("new about(" + what + ")", desk.about(what), 0);
        }
        for (int what = 0; what <= 2; what++) {
            due("new count(" + what + ")", desk.count(what), 0);
        }
        due("new octet", desk.octet(0), REFUSED);
        due("new moved", desk.moved(0, 0), REFUSED);
        due("new back", desk.back(0), -1);
        due("new guard", desk.guard(0, 0), REFUSED);
        due("new change", desk.change(0, 0), REFUSED);
        due("new rewrite", desk.rewrite(), 1);
        due("new clear", desk.clear(), 0);
        for (int op = 0; op <= 200; op++) {
            due("new cost of " + op, desk.cost(op, 0), 1);
        }
    }

    // Promise 2

    private static void codeTakesHighestFirst() {
        MeterDesk desk = new MeterDesk();
        due("code of 3", desk.code(0x0102030405060708L, 3), 3);
        due("code of 8", desk.code(0xFFEEDDCCBBAA9988L, 8), 11);
        due("code of 1", desk.code(0x7F00000000000000L, 1), 12);
        int[] want = {1, 2, 3, 0xFF, 0xEE, 0xDD, 0xCC, 0xBB, 0xAA, 0x99, 0x88, 0x7F};
        for (int k = 0; k < want.length; k++) {
            due("octet " + k + " of the code", desk.change(k, 0), want[k]);
        }
        due("no octet behind them", desk.change(12, 0), REFUSED);
    }

    private static void codeEdges() {
        MeterDesk desk = new MeterDesk();
        for (int n : new int[] {0, -1, 9, 64, Integer.MIN_VALUE, Integer.MAX_VALUE}) {
            due("code of " + n, desk.code(-1L, n), REFUSED);
        }
        due("refused code adds nothing", desk.count(0), 0);
        for (int i = 1; i <= 24; i++) {
            due("code up to " + 8 * i, desk.code(0L, 8), 8 * i);
        }
        due("code up to 193", desk.code(0L, 1), 193);
        due("code up to 201", desk.code(0L, 8), FULL);
        due("full code adds nothing", desk.count(0), 193);
        due("code up to 200", desk.code(0L, 7), 200);
        due("code over 200", desk.code(0L, 1), FULL);
        due("refused comes before full", desk.code(0L, 9), REFUSED);
        due("200 octets can be cleared", desk.clear(), 200);
        due("code after clear", desk.code(0L, 8), 8);
    }

    // Promise 3

    private static void changeEdges() {
        MeterDesk desk = with(0, 177);
        due("change", desk.change(1, 172), 177);
        due("change again", desk.change(1, 255), 172);
        due("change to 0", desk.change(1, 0), 255);
        due("change below", desk.change(-1, 0), REFUSED);
        due("change behind", desk.change(2, 0), REFUSED);
        due("change far behind", desk.change(Integer.MAX_VALUE, 0), REFUSED);
        due("change to -1", desk.change(0, -1), REFUSED);
        due("change to 256", desk.change(0, 256), REFUSED);
        due("refused changes nothing", desk.change(0, 5), 0);
        desk.rewrite();
        int before = desk.octet(7);
        desk.change(0, 9);
        due("change leaves what was rewritten", desk.octet(7), before);
        desk.clear();
        due("change after clear", desk.change(0, 1), REFUSED);
    }

    // Promise 4

    private static void clearKeepsTheRest() {
        MeterDesk desk = with(0, 177);
        desk.handler(0, 2, 1, 7);
        desk.mark(7, true);
        desk.cost(0, 50);
        desk.set(5, 9);
        due("rewrite before clear", desk.rewrite(), 0);
        int size = desk.about(0);
        due("clear", desk.clear(), 2);
        due("no octets", desk.count(0), 0);
        due("no handlers", desk.count(1), 0);
        due("how often stays", desk.count(2), 1);
        due("what was rewritten stays", desk.about(0), size);
        due("octet stays", desk.octet(0), 184);
        due("moved stays", desk.moved(1, 3), 1);
        due("back stays", desk.back(desk.moved(1, 1)), 1);
        due("guard stays", desk.guard(0, 3), 7);
        due("clear again", desk.clear(), 0);
        due("rewrite of nothing", desk.rewrite(), 1);
        load(desk, 0, 177);
        desk.handler(0, 2, 1, 7);
        due("rewrite after clear", desk.rewrite(), 0);
        due("costs, marks, base and reach stay", desk.about(0), size);
        due("base stays", desk.octet(2), 7);
    }

    // Promise 5

    private static void handlerEdges() {
        MeterDesk desk = new MeterDesk();
        due("caught -1", desk.handler(0, 1, 0, -1), REFUSED);
        due("caught 256", desk.handler(0, 1, 0, 256), REFUSED);
        due("from -1", desk.handler(-1, 1, 0, 0), REFUSED);
        due("from 201", desk.handler(201, 1, 0, 0), REFUSED);
        due("to -1", desk.handler(0, -1, 0, 0), REFUSED);
        due("to 201", desk.handler(0, 201, 0, 0), REFUSED);
        due("at -1", desk.handler(0, 1, -1, 0), REFUSED);
        due("at 201", desk.handler(0, 1, 201, 0), REFUSED);
        due("refused adds none", desk.count(1), 0);
        due("first", desk.handler(0, 0, 0, 0), 1);
        due("second", desk.handler(200, 200, 200, 255), 2);
        due("third", desk.handler(5, 3, 9, 1), 3);
        due("fourth", desk.handler(0, 1, 0, 1), 4);
        due("fifth", desk.handler(0, 1, 0, 1), FULL);
        due("refused comes before full", desk.handler(0, 1, 0, 256), REFUSED);
        due("four there are", desk.count(1), 4);
        desk.clear();
        due("first after clear", desk.handler(0, 1, 0, 1), 1);
    }

    // Promise 6

    private static void markEdges() {
        MeterDesk desk = with(0, 177);
        due("mark 0", desk.mark(0, true), false);
        due("mark -1", desk.mark(-1, true), false);
        due("mark 256", desk.mark(256, true), false);
        due("unmark 0", desk.mark(0, false), false);
        due("mark 1", desk.mark(1, true), true);
        due("mark 255", desk.mark(255, true), true);
        desk.handler(0, 1, 1, 255);
        desk.rewrite();
        due("marked has a look", desk.moved(1, 2), 4 + 4 + 3 + 1);
        due("unmark", desk.mark(255, false), true);
        due("marks count when rewritten", desk.moved(1, 2), 4 + 4 + 3 + 1);
        desk.rewrite();
        due("unmarked has none", desk.moved(1, 2), 4 + 3 + 1);
        desk.handler(0, 2, 1, 0);
        desk.rewrite();
        due("0 is always dangerous", desk.moved(1, 2), 4 + 4 + 3 + 1);
        desk.mark(255, true);
        desk.rewrite();
        due("two dangerous ones have one look", desk.moved(1, 2), 4 + 4 + 3 + 1);
        desk.handler(0, 2, 0, 0);
        desk.rewrite();
        due("a look at place 0", desk.moved(0, 2), 3 + 4 + 4 + 1);
        desk.clear();
        load(desk, 0, 177);
        desk.rewrite();
        due("no look without the handler", desk.moved(0, 2), 3 + 4 + 1);
    }

    // Promise 7

    private static void costEdges() {
        MeterDesk desk = new MeterDesk();
        due("cost -1", desk.cost(-1, 1), REFUSED);
        due("cost 201", desk.cost(201, 1), REFUSED);
        due("cost of -1", desk.cost(0, -1), REFUSED);
        due("cost of 100", desk.cost(0, 100), REFUSED);
        due("cost 0", desk.cost(0, 99), 1);
        due("cost 0 again", desk.cost(0, 0), 99);
        due("cost 0 a third time", desk.cost(0, 7), 0);
        due("cost 200", desk.cost(200, 4), 1);
        due("cost 200 again", desk.cost(200, 4), 4);
        due("cost 168", desk.cost(168, 2), 1);
        due("cost 169", desk.cost(169, 2), 1);
    }

    /** The edges of the three forms in which a COST is put in. */
    private static void costForms() {
        dueCostForm(0);
        dueCostForm(1, 4, 184, 3, CHARGE_LOW);
        dueCostForm(5, 8, 184, 3, CHARGE_LOW);
        dueCostForm(6, 16, 6, 184, 3, CHARGE_LOW);
        dueCostForm(127, 16, 127, 184, 3, CHARGE_LOW);
        dueCostForm(128, 17, 0, 128, 184, 3, CHARGE_LOW);
        dueCostForm(198, 17, 0, 198, 184, 3, CHARGE_LOW);
        MeterDesk dear = new MeterDesk();
        load(dear, times(200, 0));
        dear.cost(0, 99);
        due("19800 is rewritten", dear.rewrite(), 0);
        due("19800 is the cost", dear.moved(0, 3), 19800);
        due("19800 highest", dear.octet(4), 19800 >> 8);
        due("19800 lowest", dear.octet(5), 19800 & 255);
    }

    private static void dueCostForm(int sum, int... form) {
        MeterDesk desk = with(0, 1);
        desk.cost(0, Math.min(99, sum));
        desk.cost(1, sum - Math.min(99, sum));
        desk.rewrite();
        dueOctets("cost " + sum, desk, join(of(184, ENTER_HIGH, ENTER_LOW), form, of(0, 1)));
        due("block cost " + sum, desk.moved(0, 3), sum);
        due("sum of costs " + sum, desk.about(5), sum);
        due("place behind cost " + sum, desk.moved(1, 1), 3 + form.length + 1);
    }

    private static void costOfWide() {
        MeterDesk desk = freeWith(196, 21, 0, 1, 196, 132, 0, 1, 0, 2, 177);
        desk.cost(196, 90);
        desk.cost(21, 3);
        desk.cost(132, 4);
        desk.rewrite();
        due("a wide one costs what is behind it", desk.moved(0, 3), 7);
    }

    // Promise 8

    private static void setEdges() {
        MeterDesk desk = with(177);
        due("base -1", desk.set(-1, 4), false);
        due("base 65531", desk.set(65531, 4), false);
        due("reach 3", desk.set(0, 3), false);
        due("reach 32768", desk.set(0, 32768), false);
        desk.rewrite();
        due("refused changes nothing, high", desk.octet(1), 1002 >> 8);
        due("refused changes nothing, low", desk.octet(2), 1002 & 255);
        due("base 65530", desk.set(65530, 32767), true);
        desk.handler(0, 1, 0, 0);
        desk.rewrite();
        dueOctets("base 65530", desk,
            184, 255, 252, 89, 184, 255, 254, 4, 184, 255, 250, 184, 255, 253, 177);
        due("base 0", desk.set(0, 4), true);
        due("refused after that", desk.set(9, 3), false);
        desk.rewrite();
        dueOctets("base 0", desk, 184, 0, 2, 89, 184, 0, 4, 4, 184, 0, 0, 184, 0, 3, 177);
        MeterDesk arrays = freeWith(188, 10);
        arrays.set(255, 4);
        arrays.rewrite();
        dueOctets("base 255", arrays, 184, 1, 1, 89, 184, 1, 0, 188, 10);
    }

    // Promise 9: FORM and LONG

    private static int operandsOf(int op) {
        if (op == 16 || op == 18 || op >= 21 && op <= 25 || op >= 54 && op <= 58 || op == 188) {
            return 1;
        }
        boolean two = op == 17 || op == 19 || op == 20 || op == 132 || op >= 153 && op <= 167
            || op >= 178 && op <= 184 || op == 187 || op == 189 || op == 192 || op == 193
            || op == 198 || op == 199;
        if (two) {
            return 2;
        }
        if (op == 197) {
            return 3;
        }
        return op == 185 || op == 186 || op == 200 ? 4 : 0;
    }

    /** Behind each opcode stand as many octets as it has, then a 255, which is no opcode. */
    private static void instructionLengths() {
        for (int op = 0; op <= 200; op++) {
            boolean own = op == 168 || op == 169 || op == 170 || op == 171 || op == 196;
            if (!own) {
                int n = operandsOf(op);
                int[] whole = join(of(op), times(n, 0));
                dueRewrite("opcode " + op, 0, whole);
                dueRewrite("opcode " + op + " and 255", 1, join(whole, of(255)));
                dueRewrite("opcode " + op + " and 0", 0, join(whole, of(0)));
                if (n > 0) {
                    dueRewrite("opcode " + op + " cut", 1, Arrays.copyOf(whole, n));
                }
            }
        }
    }

    /** The last octet that there can be begins an instruction that would go on. */
    private static void cutAtTwoHundred() {
        for (int op = 0; op <= 200; op++) {
            boolean more = op == 170 || op == 171 || op == 196 || operandsOf(op) > 0;
            boolean none = op == 168 || op == 169;
            MeterDesk desk = with(join(times(199, 0), of(op)));
            due("opcode " + op + " at 199", desk.rewrite(), more || none ? 1 : 0);
        }
        for (int n = 1; n <= 15; n++) {
            dueRewrite("table cut at 200 after " + n, 1,
                join(times(200 - n, 0), Arrays.copyOf(table(0, 0, 1), n)));
        }
    }

    private static void wrongInstructions() {
        for (int op : new int[] {168, 169, 201, 202, 254, 255}) {
            dueRewrite("opcode " + op, 1, op);
            dueRewrite("opcode " + op + " with more behind it", 1, op, 0, 0, 0, 177);
            dueRewrite("opcode " + op + " later", 1, 0, 0, op, 0, 0);
            dueRewrite("opcode " + op + " as an operand", 0, 16, op, 177);
        }
    }

    private static void wideForms() {
        for (int op = 0; op <= 255; op++) {
            boolean local = op >= 21 && op <= 25 || op >= 54 && op <= 58;
            dueRewrite("196 and " + op + " and two", local ? 0 : 1, 196, op, 1, 2);
            boolean six = op == 132;
            dueRewrite("196 and " + op + " and four", six ? 0 : local ? 0 : 1, 196, op, 1, 2, 3, 4);
        }
        dueRewrite("196 alone", 1, 196);
        dueRewrite("196 and 21", 1, 196, 21);
        dueRewrite("196 and 21 and one", 1, 196, 21, 0);
        dueRewrite("196 and 132 and three", 1, 196, 132, 0, 0, 0);
        MeterDesk desk = freeWith(196, 132, 1, 2, 255, 254);
        desk.rewrite();
        dueOctets("196 is as it was", desk, 184, 3, ENTER_LOW, 196, 132, 1, 2, 255, 254);
        due("an array opcode behind 196 is none", with(196, 188, 0, 0).rewrite(), 1);
    }

    private static int[] table(int low, int high, int entries) {
        int[] row = join(of(170, 9, 9, 9), s4(0), s4(low), s4(high));
        for (int i = 0; i < entries; i++) {
            row = join(row, s4(0));
        }
        return row;
    }

    private static void tableEdges() {
        int least = Integer.MIN_VALUE, most = Integer.MAX_VALUE;
        dueRewrite("table of 1", 0, table(7, 7, 1));
        dueRewrite("table of 20", 0, table(-3, 16, 20));
        dueRewrite("table of 21", 1, table(-3, 17, 21));
        dueRewrite("table of 0", 1, table(4, 3, 0));
        dueRewrite("table of -1", 1, table(4, 2, 0));
        dueRewrite("table over the whole range", 1, table(least, most, 0));
        dueRewrite("table whose size would wrap to 2", 1, table(most, least, 2));
        dueRewrite("table at the highest", 0, table(most - 1, most, 2));
        dueRewrite("table at the lowest", 0, table(least, least, 1));
        dueRewrite("table cut in the last word", 1, Arrays.copyOf(table(1, 2, 2), 23));
        dueRewrite("table cut in its head", 1, Arrays.copyOf(table(0, 0, 1), 12));
        dueRewrite("table cut in its zeros", 1, 0, 170, 0);
        dueRewrite("table alone", 1, 170);
    }

    private static int[] lookup(int entries, int given) {
        int[] row = join(of(171, 9, 9, 9), s4(0), s4(entries));
        for (int i = 0; i < given; i++) {
            row = join(row, s4(0x7A7A7A7A - i), s4(0));
        }
        return row;
    }

    private static void lookupEdges() {
        dueRewrite("lookup of 0", 0, lookup(0, 0));
        dueRewrite("lookup of 1", 0, lookup(1, 1));
        dueRewrite("lookup of 20", 0, lookup(20, 20));
        dueRewrite("lookup of 21", 1, lookup(21, 21));
        dueRewrite("lookup of -1", 1, lookup(-1, 0));
        dueRewrite("lookup of the lowest", 1, lookup(Integer.MIN_VALUE, 0));
        dueRewrite("lookup cut", 1, lookup(2, 1));
        dueRewrite("lookup cut in its head", 1, Arrays.copyOf(lookup(0, 0), 8));
        dueRewrite("lookup alone", 1, 171);
    }

    private static void wrongGoals() {
        dueRewrite("goal is itself", 0, 167, 0, 0);
        dueRewrite("goal inside itself", 1, 167, 0, 1);
        dueRewrite("goal below 0", 1, 167, 255, 255);
        dueRewrite("goal at the end", 1, 167, 0, 3);
        dueRewrite("goal behind the end", 1, 167, 0, 99, 0);
        dueRewrite("goal inside another", 1, 153, 0, 4, 16, 0, 177);
        dueRewrite("goal behind that one", 0, 153, 0, 5, 16, 0, 177);
        dueRewrite("far goal inside", 1, join(of(200), s4(1)));
        dueRewrite("far goal that wraps", 1, join(of(0, 200), s4(Integer.MAX_VALUE)));
        dueRewrite("lowest far goal", 1, join(of(0, 200), s4(Integer.MIN_VALUE)));
        dueRewrite("s4 is no s2", 1, join(of(0, 200), s4(0x00010000 - 1)));
        dueRewrite("default inside", 1, join(of(170, 0, 0, 0), s4(1), s4(0), s4(0), s4(0)));
        dueRewrite("table goal inside", 1, join(of(170, 0, 0, 0), s4(0), s4(0), s4(0), s4(4)));
        dueRewrite("what is behind a table is no goal", 0,
            join(of(170, 0, 0, 0), s4(0), s4(0), s4(0), s4(0), times(8, 87)));
        dueRewrite("what is behind a lookup is no goal", 0,
            join(of(171, 0, 0, 0), s4(0), s4(1), s4(0), s4(0), times(8, 87)));
        dueRewrite("last table goal at the end", 1,
            join(of(170, 0, 0, 0), s4(0), s4(0), s4(1), s4(0), s4(24)));
        dueRewrite("lookup goal inside", 1, join(of(171, 0, 0, 0), s4(0), s4(1), s4(0), s4(4)));
        dueRewrite("lookup value is no goal", 0, join(of(171, 0, 0, 0), s4(0), s4(1), s4(4), s4(0)));
        dueRewrite("second lookup goal inside", 1,
            join(of(171, 0, 0, 0), s4(0), s4(2), s4(0), s4(0), s4(0), s4(1)));
    }

    private static void dueHandler(String what, int want, int from, int to, int at) {
        MeterDesk desk = with(16, 1, 177);
        desk.handler(0, 3, 2, 1);
        due(what + ", taken", desk.handler(from, to, at, 1), 2);
        due(what, desk.rewrite(), want);
    }

    private static void wrongHandlers() {
        dueHandler("handler", 0, 0, 2, 2);
        dueHandler("handler up to the end", 0, 2, 3, 0);
        dueHandler("from inside", 1, 1, 2, 2);
        dueHandler("from at the end", 1, 3, 3, 2);
        dueHandler("to inside", 1, 0, 1, 2);
        dueHandler("to behind the end", 1, 0, 4, 2);
        dueHandler("to at 200", 1, 0, 200, 2);
        dueHandler("at inside", 1, 0, 2, 1);
        dueHandler("at the end", 1, 0, 2, 3);
        dueHandler("at 200", 1, 0, 2, 200);
        dueHandler("from is to", 1, 2, 2, 0);
        dueHandler("from above to", 1, 2, 0, 0);
        MeterDesk whole = new MeterDesk();
        load(whole, times(200, 0));
        whole.handler(199, 200, 199, 1);
        due("handler up to 200", whole.rewrite(), 0);
        whole.handler(200, 200, 0, 1);
        due("from 200", whole.rewrite(), 1);
    }

    /** ENTER, 149 returns of 8 octets each, and free ones of one octet. */
    private static void longEdge() {
        MeterDesk desk = with(times(149, 176));
        desk.cost(0, 0);
        load(desk, times(5, 0));
        due("1200 octets", desk.rewrite(), 0);
        due("1200 octets there are", desk.about(0), 1200);
        due("last octet", desk.octet(1199), 0);
        due("no octet 1200", desk.octet(1200), REFUSED);
        load(desk, 0);
        due("1201 octets", desk.rewrite(), 2);
        due("how often does not count it", desk.count(2), 1);
        due("1200 are gone", desk.about(0), 0);
        due("octets are gone", desk.octet(0), REFUSED);
        due("places are gone", desk.moved(0, 0), REFUSED);
        due("rounds are gone", desk.about(3), 0);
        desk.clear();
        load(desk, times(200, 177));
        due("1603 octets", desk.rewrite(), 2);
        desk.change(199, 255);
        due("form comes before length", desk.rewrite(), 1);
    }

    private static void failureForgets() {
        MeterDesk desk = with(167, 0, 3, 177);
        desk.handler(0, 3, 3, 0);
        due("rewrite", desk.rewrite(), 0);
        int spot = desk.moved(3, 1);
        desk.change(2, 1);
        due("what was rewritten stands until then", desk.back(spot), 3);
        due("rewrite fails", desk.rewrite(), 1);
        for (int what = 0; what <= 7; what++) {
            due("gone about(" + what + ")", desk.about(what), 0);
        }
        for (int what = 0; what <= 4; what++) {
            due("gone moved(3, " + what + ")", desk.moved(3, what), REFUSED);
        }
        due("gone octet", desk.octet(0), REFUSED);
        due("gone back", desk.back(spot), -1);
        due("gone guard", desk.guard(0, 3), REFUSED);
        due("how often stays", desk.count(2), 1);
        desk.change(2, 3);
        due("rewrite again", desk.rewrite(), 0);
        due("back again", desk.back(spot), 3);
        due("how often grows", desk.count(2), 2);
    }

    // Promise 10 and what is put in

    private static void octetEdges() {
        MeterDesk desk = with(0);
        desk.rewrite();
        dueOctets("one nop", desk, 184, ENTER_HIGH, ENTER_LOW, 4, 184, 3, CHARGE_LOW, 0);
        due("octet -1", desk.octet(-1), REFUSED);
        due("octet far behind", desk.octet(Integer.MAX_VALUE), REFUSED);
        due("octet lowest", desk.octet(Integer.MIN_VALUE), REFUSED);
    }

    private static void orderInFront() {
        MeterDesk desk = with(188, 10, 177);
        desk.handler(0, 3, 0, 0);
        desk.handler(0, 2, 2, 0);
        desk.rewrite();
        dueOctets("all that stands in front", desk,
            184, 3, ENTER_LOW, 89, 184, 3, LOOK_LOW, 4, 184, 3, CHARGE_LOW, 89, 184, 3, SIZE_LOW,
            188, 10,
            89, 184, 3, LOOK_LOW, 4, 184, 3, CHARGE_LOW, 184, 3, LEAVE_LOW, 177);
        for (int op = 172; op <= 200; op++) {
            if (op != 196) {
                MeterDesk free = freeWith(join(of(0, op), times(operandsOf(op), 0)));
                free.rewrite();
                int front = free.moved(1, 1) - free.moved(1, 0);
                boolean leaves = op >= 172 && op <= 177;
                due("front of " + op, front, leaves ? 3 : op == 188 || op == 189 ? 4 : 0);
                due("call in front of " + op, free.octet(leaves ? 6 : 2),
                    leaves ? LEAVE_LOW : ENTER_LOW);
            }
        }
    }

    private static void blockBegins() {
        for (int op = 0; op <= 200; op++) {
            boolean own = op == 168 || op == 169 || op == 170 || op == 171 || op == 196;
            if (!own) {
                MeterDesk desk = with(join(of(0, op), times(operandsOf(op), 0), of(0)));
                desk.rewrite();
                boolean ends = op >= 153 && op <= 167 || op >= 172 && op <= 177 || op == 191
                    || op >= 198;
                due("block behind " + op, desk.moved(2 + operandsOf(op), 3), ends ? 1 : -1);
            }
        }
        MeterDesk table = with(join(table(0, 0, 1), of(0)));
        table.rewrite();
        due("block behind 170", table.moved(20, 3), 1);
        MeterDesk lookup = with(join(lookup(0, 0), of(0)));
        lookup.rewrite();
        due("block behind 171", lookup.moved(12, 3), 1);
        MeterDesk desk = with(0, 0, 0, 167, 255, 254);
        desk.handler(0, 6, 2, 9);
        desk.rewrite();
        due("block at 0", desk.moved(0, 3), 1);
        due("block at a goal", desk.moved(1, 3), 1);
        due("block at an AT", desk.moved(2, 3), 2);
        due("no block in it", desk.moved(3, 3), -1);
        due("no block at the end", desk.about(2), 3);
    }

    // Jumps

    private static void nearJumps() {
        MeterDesk desk = freeWith(153, 0, 5, 188, 10, 167, 255, 251);
        desk.rewrite();
        dueOctets("near jumps", desk,
            184, 3, ENTER_LOW, 153, 0, 9, 89, 184, 3, SIZE_LOW, 188, 10, 167, 255, 247);
        due("near is not far", desk.moved(0, 4), 0);
        due("a jump to 0 goes behind ENTER", desk.moved(0, 0), 3);
    }

    private static void dueReach(int reach, int nops, boolean back, boolean far) {
        int[] body = times(nops, 0);
        int[] octets = back ? join(body, of(153, -nops >> 8 & 255, -nops & 255))
            : join(of(153, nops + 3 >> 8, nops + 3 & 255), body, of(0));
        MeterDesk desk = freeWith(octets);
        desk.set(1000, reach);
        due("reach rewrite", desk.rewrite(), 0);
        String what = "reach " + reach + " over " + nops + (back ? " back" : " on");
        due(what, desk.moved(back ? nops : 0, 4), far ? 1 : 0);
        due(what + ", far ones", desk.about(4), far ? 1 : 0);
        due(what + ", rounds", desk.about(3), far ? 2 : 1);
    }

    private static void reachEdges() {
        dueReach(10, 7, false, false);
        dueReach(10, 8, false, true);
        dueReach(10, 10, true, false);
        dueReach(10, 11, true, true);
        dueReach(4, 1, false, false);
        dueReach(4, 2, false, true);
        dueReach(4, 4, true, false);
        dueReach(4, 5, true, true);
        dueReach(32767, 190, false, false);
    }

    private static void opposites() {
        int[] pairs = {153, 154, 155, 156, 157, 158, 159, 160, 161, 162, 163, 164, 165, 166, 198, 199};
        for (int i = 0; i < pairs.length; i++) {
            MeterDesk desk = freeWith(0, 0, 0, 0, 0, pairs[i], 255, 251, 0);
            desk.set(1000, 4);
            desk.rewrite();
            dueOctets("opposite of " + pairs[i], desk,
                184, 3, ENTER_LOW, 0, 0, 0, 0, 0, pairs[i ^ 1], 0, 8, 200, 255, 255, 255, 248, 0);
            due("place of the opposite", desk.moved(5, 1), 8);
            due("back from the opposite", desk.back(8), 5);
            due("no back from its 200", desk.back(11), -1);
            due("length of it", desk.moved(5, 2), 8);
            due("far", desk.moved(5, 4), 1);
        }
    }

    private static void farGotoAndFarGotoWide() {
        MeterDesk desk = freeWith(join(of(167, 0, 9), times(6, 0), of(200), s4(-9)));
        desk.set(1000, 8);
        desk.rewrite();
        dueOctets("far goto", desk, join(of(184, 3, ENTER_LOW, 200), s4(11), times(6, 0),
            of(200), s4(-11)));
        due("far goto is far", desk.moved(0, 4), 1);
        due("200 is far", desk.moved(9, 4), 1);
        due("200s do not count", desk.about(4), 1);
        due("place of the far goto", desk.back(3), 0);
        desk.set(1000, 32767);
        desk.rewrite();
        due("near again", desk.moved(0, 4), 0);
        due("200 stays far", desk.moved(9, 4), 1);
        due("no far ones", desk.about(4), 0);
        due("one round", desk.about(3), 1);
    }

    /** Each goto jumps over the next one; what one becomes puts the one before it out of reach. */
    private static void roundsCascade() {
        MeterDesk desk = freeWith(167, 0, 6, 167, 0, 6, 167, 0, 7, 0, 0, 0, 0, 0);
        desk.set(1000, 6);
        due("cascade", desk.rewrite(), 0);
        due("three rounds make far ones", desk.about(3), 4);
        due("all are far", desk.about(4), 3);
        dueOctets("cascade", desk, join(of(184, 3, ENTER_LOW, 200), s4(10), of(200), s4(10),
            of(200), s4(9), times(5, 0)));
        desk.set(1000, 7);
        desk.rewrite();
        due("none is far", desk.about(4), 0);
        due("one round is enough", desk.about(3), 1);
    }

    // Switches

    private static void switchPadding() {
        for (int before = 0; before < 8; before++) {
            int zeros = 3 - before % 4;
            int[] words = join(s4(-before), s4(-1), s4(0), s4(0), s4(-before));
            MeterDesk desk = freeWith(join(times(before, 0), of(170), times(zeros, 77), words));
            due("padding " + before, desk.rewrite(), 0);
            int spot = 3 + before;
            dueOctets("padding " + before, desk, join(of(184, 3, ENTER_LOW), times(before, 0),
                of(170), times(3 - spot % 4, 0),
                s4(-before), s4(-1), s4(0), s4(0), s4(-before)));
            due("length of it", desk.moved(before, 2), (before == 0 ? 3 : 0) + 24 - spot % 4);
        }
    }

    private static void switchRewritten() {
        int[] octets = join(of(171, 1, 2, 3), s4(28), s4(2), s4(-5), s4(29), s4(70000), s4(0),
            of(177, 177));
        MeterDesk desk = with(octets);
        due("lookup", desk.rewrite(), 0);
        dueOctets("lookup", desk, join(
            of(184, 3, ENTER_LOW, 4, 184, 3, CHARGE_LOW, 171),
            s4(25), s4(2), s4(-5), s4(33), s4(70000), s4(-4),
            of(4, 184, 3, CHARGE_LOW, 184, 3, LEAVE_LOW, 177),
            of(4, 184, 3, CHARGE_LOW, 184, 3, LEAVE_LOW, 177)));
        due("a switch is not far", desk.moved(0, 4), 0);
        desk.set(1000, 4);
        desk.rewrite();
        due("a switch never is", desk.moved(0, 4), 0);
        due("nor does it count", desk.about(4), 0);
        due("nor take a round", desk.about(3), 1);
    }

    // Promises 11 to 15

    private static void movedAnswers() {
        MeterDesk desk = with(16, 9, 172, 0);
        desk.handler(0, 2, 2, 0);
        desk.rewrite();
        int[][] want = {{3, 7, 9, 1, 0}, {9, 20, 12, 1, 0}, {21, 25, 5, 1, 0}};
        int[] places = {0, 2, 3};
        for (int i = 0; i < places.length; i++) {
            for (int what = 0; what <= 4; what++) {
                due("moved(" + places[i] + ", " + what + ")", desk.moved(places[i], what),
                    want[i][what]);
            }
            due("moved what -1", desk.moved(places[i], -1), REFUSED);
            due("moved what 5", desk.moved(places[i], 5), REFUSED);
        }
        for (int place : new int[] {-1, 1, 4, 199, 200, 201, Integer.MAX_VALUE, Integer.MIN_VALUE}) {
            due("moved(" + place + ", 0)", desk.moved(place, 0), REFUSED);
        }
        MeterDesk plain = freeWith(0, 0);
        plain.rewrite();
        due("front with nothing behind ENTER", plain.moved(0, 0), 3);
        due("opcode with nothing behind ENTER", plain.moved(0, 1), 3);
        due("octets with ENTER", plain.moved(0, 2), 4);
        due("a block for nothing", plain.moved(0, 3), 0);
        due("no block", plain.moved(1, 3), -1);
    }

    private static void backAnswers() {
        MeterDesk desk = with(16, 9, 172, 0);
        desk.rewrite();
        int found = 0;
        for (int place = -2; place < desk.about(0) + 2; place++) {
            int old = desk.back(place);
            if (old != -1) {
                found++;
                due("back and forth", desk.moved(old, 1), place);
            }
        }
        due("each instruction is found", found, 3);
        due("back of ENTER", desk.back(0), -1);
        due("back of 16", desk.back(7), 0);
        due("back of its operand", desk.back(8), -1);
        due("back of the lowest", desk.back(Integer.MIN_VALUE), -1);
        due("back of the highest", desk.back(Integer.MAX_VALUE), -1);
    }

    private static void guardAnswers() {
        MeterDesk desk = with(0, 0, 177);
        desk.handler(0, 3, 2, 0);
        desk.handler(1, 2, 0, 200);
        desk.rewrite();
        int[][] want = {{3, 21, 9, 0}, {8, 9, 3, 200}};
        for (int h = 0; h < 2; h++) {
            for (int what = 0; what < 4; what++) {
                due("guard(" + h + ", " + what + ")", desk.guard(h, what), want[h][what]);
            }
            due("guard what -1", desk.guard(h, -1), REFUSED);
            due("guard what 4", desk.guard(h, 4), REFUSED);
        }
        due("guard -1", desk.guard(-1, 0), REFUSED);
        due("guard 2", desk.guard(2, 0), REFUSED);
        due("guard -1, 4", desk.guard(-1, 4), REFUSED);
        desk.handler(0, 1, 0, 1);
        due("a later handler was not rewritten", desk.guard(2, 3), REFUSED);
        desk.handler(1, 3, 1, 255);
        desk.rewrite();
        due("now it was", desk.guard(2, 3), 1);
        due("so was the fourth", desk.guard(3, 3), 255);
        due("to the end", desk.guard(3, 1), desk.about(0));
        due("guard 4", desk.guard(4, 0), REFUSED);
    }

    private static void aboutAnswers() {
        MeterDesk desk = with(188, 10, 153, 255, 254, 189, 0, 0, 177);
        desk.handler(0, 9, 5, 0);
        desk.set(1000, 9);
        due("about rewrite", desk.rewrite(), 0);
        int[] want = {40, 4, 2, 2, 1, 4, 7, 5};
        for (int what = 0; what < want.length; what++) {
            due("about(" + what + ")", desk.about(what), want[what]);
        }
        due("about(-1)", desk.about(-1), REFUSED);
        due("about(8)", desk.about(8), REFUSED);
        due("about(8) of a new one", new MeterDesk().about(8), REFUSED);
    }

    private static void countAnswers() {
        MeterDesk desk = with(0, 177, 0);
        desk.handler(0, 1, 1, 1);
        due("count(0)", desk.count(0), 3);
        due("count(1)", desk.count(1), 1);
        due("count(2)", desk.count(2), 0);
        desk.rewrite();
        desk.rewrite();
        due("count(2) after two", desk.count(2), 2);
        due("count(0) is of the code", desk.count(0), 3);
        desk.change(0, 255);
        desk.rewrite();
        due("count(2) after a wrong one", desk.count(2), 2);
        due("count(-1)", desk.count(-1), REFUSED);
        due("count(3)", desk.count(3), REFUSED);
    }
}
