/** One test for each sentence of promises 1 to 15 that names a boundary, on both sides of it. */
public final class CallBoundaries extends DeskTest {
    /** What no limit of the document reaches; some of them meet 0 if a product or sum wraps around. */
    private static final int[] BEYOND = {LOWEST, LOWEST + 1, -(1 << 30), 1 << 30, HIGHEST - 1, HIGHEST};

    public static void main(String[] args) {
        sentence("An object is used for at most 512 calls", CallBoundaries::all512Calls);
        sentence("1: No CODE", CallBoundaries::newHasNoCode);
        sentence("1: no HANDLERS", CallBoundaries::newHasNoHandlers);
        sentence("1: nothing rewritten", CallBoundaries::newHasNothingRewritten);
        sentence("2: the n highest OCTETS of w, its highest 8 bits first", CallBoundaries::codeHighestFirst);
        sentence("2: REFUSED if n is not 1..8", CallBoundaries::codeTakesOneToEight);
        sentence("2: FULL if there would be more than 200", CallBoundaries::codeIsFullAt200);
        sentence("3: REFUSED if there is none", CallBoundaries::changeOfNone);
        sentence("3: REFUSED if v is not 0..255", CallBoundaries::changeToNoOctet);
        sentence("4: the CODE is gone: how many there were", CallBoundaries::clearOfCode);
        sentence("4: the HANDLERS are gone", CallBoundaries::clearOfHandlers);
        sentence("5: REFUSED if caught is not 0..255", CallBoundaries::handlerCaught);
        sentence("5: REFUSED if a place is not 0..200", CallBoundaries::handlerPlaces);
        sentence("5: FULL if there are 4", CallBoundaries::handlerFullAt4);
        sentence("6: c (1..255): true; false for another c", CallBoundaries::markRange);
        sentence("6: is marked DANGEROUS, or not", CallBoundaries::markAndUnmark);
        sentence("7: REFUSED if op is not 0..200", CallBoundaries::costOpcodes);
        sentence("7: REFUSED if n is not 0..99", CallBoundaries::costNumbers);
        sentence("8: false if BASE is out of range", CallBoundaries::setBase);
        sentence("8: false if REACH is out of range", CallBoundaries::setReach);
        sentence("8: nothing changes if one is out of range", CallBoundaries::setChangesNothing);
        sentence("9: 0, or what is wrong (1 or 2)", CallBoundaries::rewriteAnswers);
        sentence("9: What was rewritten before is gone (1)", CallBoundaries::goneAfterWrongForm);
        sentence("9: What was rewritten before is gone (2)", CallBoundaries::goneAfterTooLong);
        sentence("9: What was rewritten before is gone (0)", CallBoundaries::goneAfterShorter);
        sentence("10: REFUSED if there is none", CallBoundaries::octetOfNone);
        sentence("11: REFUSED if none begins there", CallBoundaries::movedOfNone);
        sentence("11: REFUSED if nothing was rewritten", CallBoundaries::movedOfNothing);
        sentence("11: REFUSED for others", CallBoundaries::movedOthers);
        sentence("11: -1 if no BLOCK begins there", CallBoundaries::movedWithoutBlock);
        sentence("11: 1 if it is a FAR JUMP (a 200 is), else 0", CallBoundaries::movedFar);
        sentence("12: -1 if there is none", CallBoundaries::backOfNone);
        sentence("12: the opcode, of a FAR JUMP the opposite one", CallBoundaries::backOfFar);
        sentence("13: REFUSED if there was none", CallBoundaries::guardOfNone);
        sentence("13: REFUSED for others", CallBoundaries::guardOthers);
        sentence("14: 0 if nothing was", CallBoundaries::aboutNothing);
        sentence("14: REFUSED for others", CallBoundaries::aboutOthers);
        sentence("14: FAR JUMPS but for 200s", CallBoundaries::aboutFar);
        sentence("14: CALLS put in; COSTS, 89s", CallBoundaries::aboutCallsAndPushes);
        sentence("10 to 14: of what was rewritten, as it was then", CallBoundaries::asItWasThen);
        sentence("15: how many, how often", CallBoundaries::countFromZero);
        sentence("15: REFUSED for others", CallBoundaries::countOthers);
        end();
    }

    private static void dueNothingRewritten(String when, MeterDesk desk) {
        for (int what = 0; what <= 7; what++) {
            due(when + " about(" + what + ")", desk.about(what), 0);
        }
        for (int what = 0; what <= 4; what++) {
            due(when + " moved(0, " + what + ")", desk.moved(0, what), REFUSED);
        }
        for (int what = 0; what <= 3; what++) {
            due(when + " guard(0, " + what + ")", desk.guard(0, what), REFUSED);
        }
        for (int k = 0; k <= 8; k++) {
            due(when + " octet(" + k + ")", desk.octet(k), REFUSED);
            due(when + " back(" + k + ")", desk.back(k), -1);
        }
    }

    private static void all512Calls() {
        MeterDesk desk = new MeterDesk();
        due("call 1", desk.code(0L, 1), 1);
        for (int call = 2; call <= 511; call++) {
            due("call " + call, desk.rewrite(), 0);
        }
        due("call 512", desk.count(2), 510);
    }

    // Promise 1

    private static void newHasNoCode() {
        MeterDesk desk = new MeterDesk();
        due("count(0)", desk.count(0), 0);
        due("clear()", desk.clear(), 0);
        due("change(0, 0)", desk.change(0, 0), REFUSED);
        due("rewrite()", desk.rewrite(), 1);
        due("the first octet is number 0", new MeterDesk().code(0L, 1), 1);
    }

    private static void newHasNoHandlers() {
        MeterDesk desk = new MeterDesk();
        due("count(1)", desk.count(1), 0);
        due("the first handler", desk.handler(0, 1, 0, 0), 1);
        MeterDesk bare = with(0);
        due("rewrite()", bare.rewrite(), 0);
        due("guard(0, 3)", bare.guard(0, 3), REFUSED);
        due("no look", bare.about(6), 2);
    }

    private static void newHasNothingRewritten() {
        MeterDesk desk = new MeterDesk();
        due("count(2)", desk.count(2), 0);
        dueNothingRewritten("new:", desk);
        load(desk, 177);
        desk.handler(0, 1, 0, 0);
        dueNothingRewritten("given code:", desk);
        due("rewrite()", desk.rewrite(), 0);
        due("octet(0) then", desk.octet(0), 184);
        due("count(2) then", desk.count(2), 1);
    }

    // Promise 2

    private static void codeHighestFirst() {
        for (int n = 1; n <= 8; n++) {
            MeterDesk desk = new MeterDesk();
            due("code of " + n, desk.code(0xFF807F0180FE00C8L, n), n);
            int[] want = {255, 128, 127, 1, 128, 254, 0, 200};
            for (int k = 0; k < n; k++) {
                due("octet " + k + " of " + n, desk.change(k, 0), want[k]);
            }
            due("octet " + n + " of " + n, desk.change(n, 0), REFUSED);
        }
    }

    private static void codeTakesOneToEight() {
        MeterDesk desk = new MeterDesk();
        due("n 0", desk.code(-1L, 0), REFUSED);
        due("n 9", desk.code(-1L, 9), REFUSED);
        due("n -1", desk.code(-1L, -1), REFUSED);
        for (int n : BEYOND) {
            due("n " + n, desk.code(-1L, n), REFUSED);
        }
        due("no octets of refused calls", desk.count(0), 0);
        due("n 1", desk.code(-1L, 1), 1);
        due("n 8", desk.code(-1L, 8), 9);
        due("n 0 then", desk.code(-1L, 0), REFUSED);
        due("n 9 then", desk.code(-1L, 9), REFUSED);
        due("nine octets", desk.count(0), 9);
    }

    private static void codeIsFullAt200() {
        for (int n = 1; n <= 8; n++) {
            MeterDesk fits = with(times(200 - n, 0));
            due(n + " up to 200", fits.code(0L, n), 200);
            due("one over 200", fits.code(0L, 1), FULL);
            due("200 there are", fits.count(0), 200);
            MeterDesk over = with(times(201 - n, 0));
            due(n + " up to 201", over.code(-1L, n), FULL);
            due("nothing of it came", over.count(0), 201 - n);
            due("no octet of it", over.change(201 - n, 0), REFUSED);
        }
        MeterDesk full = with(times(200, 0));
        due("0 octets more", full.code(0L, 0), REFUSED);
        due("9 octets more", full.code(0L, 9), REFUSED);
        due("200 octets are gone", full.clear(), 200);
        due("room again", full.code(0L, 8), 8);
    }

    // Promise 3

    private static void changeOfNone() {
        MeterDesk desk = new MeterDesk();
        due("without code", desk.change(0, 7), REFUSED);
        load(desk, 5, 6, 7);
        due("k -1", desk.change(-1, 9), REFUSED);
        due("k 0", desk.change(0, 9), 5);
        due("k 2", desk.change(2, 9), 7);
        due("k 3", desk.change(3, 9), REFUSED);
        for (int k : BEYOND) {
            due("k " + k, desk.change(k, 9), REFUSED);
        }
        due("three octets still", desk.count(0), 3);
        due("code comes behind them", desk.code(0x0B00000000000000L, 1), 4);
        due("k 3 then", desk.change(3, 0), 11);
        desk.clear();
        due("k 0 after clear", desk.change(0, 9), REFUSED);
        MeterDesk full = with(times(200, 8));
        due("k 199", full.change(199, 9), 8);
        due("k 200", full.change(200, 9), REFUSED);
    }

    private static void changeToNoOctet() {
        MeterDesk desk = with(5);
        due("v -1", desk.change(0, -1), REFUSED);
        due("v 256", desk.change(0, 256), REFUSED);
        for (int v : BEYOND) {
            due("v " + v, desk.change(0, v), REFUSED);
        }
        due("v 0", desk.change(0, 0), 5);
        due("v 255", desk.change(0, 255), 0);
        due("v 256 then", desk.change(0, 256), REFUSED);
        due("255 it is", desk.change(0, 1), 255);
    }

    // Promise 4

    private static void clearOfCode() {
        MeterDesk desk = new MeterDesk();
        due("of none", desk.clear(), 0);
        load(desk, 9);
        due("of one", desk.clear(), 1);
        due("of none again", desk.clear(), 0);
        load(desk, times(200, 177));
        due("of 200", desk.clear(), 200);
        due("count(0)", desk.count(0), 0);
        due("no code to rewrite", desk.rewrite(), 1);
        load(desk, 0);
        due("nothing of before is left", desk.rewrite(), 0);
        due("one instruction", desk.about(1), 1);
    }

    private static void clearOfHandlers() {
        MeterDesk desk = new MeterDesk();
        due("a handler without code", desk.handler(0, 9, 5, 0), 1);
        due("octets there were", desk.clear(), 0);
        due("count(1)", desk.count(1), 0);
        load(desk, 0);
        due("no handler is looked at", desk.rewrite(), 0);
        due("no guard", desk.guard(0, 3), REFUSED);
        for (int h = 1; h <= 4; h++) {
            due("handler " + h, desk.handler(0, 1, 0, 0), h);
        }
        desk.clear();
        for (int h = 1; h <= 4; h++) {
            due("handler " + h + " again", desk.handler(0, 1, 0, 0), h);
        }
    }

    // Promise 5

    private static void handlerCaught() {
        MeterDesk desk = with(0);
        due("caught -1", desk.handler(0, 1, 0, -1), REFUSED);
        due("caught 256", desk.handler(0, 1, 0, 256), REFUSED);
        for (int caught : BEYOND) {
            due("caught " + caught, desk.handler(0, 1, 0, caught), REFUSED);
        }
        due("none of them", desk.count(1), 0);
        due("caught 0", desk.handler(0, 1, 0, 0), 1);
        due("caught 255", desk.handler(0, 1, 0, 255), 2);
        due("rewrite", desk.rewrite(), 0);
        due("guard(0, 3)", desk.guard(0, 3), 0);
        due("guard(1, 3)", desk.guard(1, 3), 255);
    }

    private static void handlerPlaces() {
        for (int which = 0; which < 3; which++) {
            MeterDesk desk = new MeterDesk();
            due("place -1 as " + which, handlerAt(desk, which, -1), REFUSED);
            due("place 201 as " + which, handlerAt(desk, which, 201), REFUSED);
            for (int place : BEYOND) {
                due("place " + place + " as " + which, handlerAt(desk, which, place), REFUSED);
            }
            due("none of them", desk.count(1), 0);
            due("place 0 as " + which, handlerAt(desk, which, 0), 1);
            due("place 200 as " + which, handlerAt(desk, which, 200), 2);
        }
    }

    private static int handlerAt(MeterDesk desk, int which, int place) {
        return desk.handler(which == 0 ? place : 3, which == 1 ? place : 3, which == 2 ? place : 3, 3);
    }

    private static void handlerFullAt4() {
        MeterDesk desk = with(0, 0);
        for (int h = 1; h <= 4; h++) {
            due("handler " + h, desk.handler(0, 2, 1, h), h);
        }
        due("handler 5", desk.handler(0, 1, 0, 5), FULL);
        due("4 there are", desk.count(1), 4);
        due("a wrong caught is refused first", desk.handler(0, 1, 0, 256), REFUSED);
        due("a wrong place is refused first", desk.handler(0, 201, 0, 0), REFUSED);
        desk.rewrite();
        due("the fourth is as it was", desk.guard(3, 3), 4);
        due("there is no fifth", desk.guard(4, 3), REFUSED);
    }

    // Promise 6

    private static void markRange() {
        MeterDesk desk = new MeterDesk();
        for (int turn = 0; turn < 2; turn++) {
            boolean dangerous = turn == 0;
            due("c 0", desk.mark(0, dangerous), false);
            due("c 1", desk.mark(1, dangerous), true);
            due("c 255", desk.mark(255, dangerous), true);
            due("c 256", desk.mark(256, dangerous), false);
            due("c -1", desk.mark(-1, dangerous), false);
            for (int c : BEYOND) {
                due("c " + c, desk.mark(c, dangerous), false);
            }
        }
    }

    private static void markAndUnmark() {
        for (int c : new int[] {1, 2, 254, 255}) {
            MeterDesk desk = with(0);
            desk.handler(0, 1, 0, c);
            dueLooks("at first", desk, 0);
            desk.mark(c - 1, true);
            dueLooks("one below is marked", desk, 0);
            desk.mark(c + 1, true);
            dueLooks("one above is marked", desk, 0);
            desk.mark(c, true);
            dueLooks("marked", desk, 1);
            desk.mark(c, true);
            dueLooks("marked twice", desk, 1);
            desk.mark(c - 1, false);
            desk.mark(c + 1, false);
            dueLooks("the others are not", desk, 1);
            desk.mark(c, false);
            dueLooks("not marked", desk, 0);
        }
        MeterDesk zero = with(0);
        zero.handler(0, 1, 0, 0);
        zero.mark(0, false);
        dueLooks("0 stays dangerous", zero, 1);
    }

    /** ENTER and CHARGE are put in as well. */
    private static void dueLooks(String what, MeterDesk desk, int looks) {
        due(what + ", rewrite", desk.rewrite(), 0);
        due(what + ", calls", desk.about(6), 2 + looks);
    }

    // Promise 7

    private static void costOpcodes() {
        MeterDesk desk = new MeterDesk();
        due("op -1", desk.cost(-1, 5), REFUSED);
        due("op 201", desk.cost(201, 5), REFUSED);
        for (int op : BEYOND) {
            due("op " + op, desk.cost(op, 5), REFUSED);
        }
        for (int op = 0; op <= 200; op++) {
            due("op " + op + " at first", desk.cost(op, op % 100), 1);
        }
        for (int op = 0; op <= 200; op++) {
            due("op " + op + " then", desk.cost(op, 0), op % 100);
        }
    }

    private static void costNumbers() {
        MeterDesk desk = with(0);
        due("n -1", desk.cost(0, -1), REFUSED);
        due("n 100", desk.cost(0, 100), REFUSED);
        for (int n : BEYOND) {
            due("n " + n, desk.cost(0, n), REFUSED);
        }
        due("n 99", desk.cost(0, 99), 1);
        due("n 100 then", desk.cost(0, 100), REFUSED);
        desk.rewrite();
        due("99 it is", desk.moved(0, 3), 99);
        due("n 0", desk.cost(0, 0), 99);
        due("n -1 then", desk.cost(0, -1), REFUSED);
        desk.rewrite();
        due("0 it is", desk.moved(0, 3), 0);
        due("0 it was", desk.cost(0, 1), 0);
    }

    // Promise 8

    private static void setBase() {
        MeterDesk desk = with(0);
        due("base -1", desk.set(-1, 100), false);
        due("base 65531", desk.set(65531, 100), false);
        for (int base : BEYOND) {
            due("base " + base, desk.set(base, 100), false);
        }
        dueBase(desk, 1000);
        due("base 0", desk.set(0, 100), true);
        dueBase(desk, 0);
        due("base 65530", desk.set(65530, 100), true);
        dueBase(desk, 65530);
        due("base 65531 then", desk.set(65531, 100), false);
        dueBase(desk, 65530);
    }

    private static void dueBase(MeterDesk desk, int base) {
        desk.rewrite();
        due("ENTER at base " + base, desk.octet(1) * 256 + desk.octet(2), base + 2);
        due("CHARGE at base " + base, desk.octet(5) * 256 + desk.octet(6), base);
    }

    /** A jump back over five octets is far if REACH is 4, and near if it is 5. */
    private static void setReach() {
        MeterDesk desk = freeWith(0, 0, 0, 0, 0, 167, 255, 251);
        due("reach 3", desk.set(1000, 3), false);
        due("reach 0", desk.set(1000, 0), false);
        due("reach -1", desk.set(1000, -1), false);
        due("reach 32768", desk.set(1000, 32768), false);
        for (int reach : BEYOND) {
            due("reach " + reach, desk.set(1000, reach), false);
        }
        dueFarOnes("at first", desk, 0);
        due("reach 4", desk.set(1000, 4), true);
        dueFarOnes("reach 4", desk, 1);
        due("reach 32768 then", desk.set(1000, 32768), false);
        dueFarOnes("reach 4 still", desk, 1);
        due("reach 5", desk.set(1000, 5), true);
        dueFarOnes("reach 5", desk, 0);
        due("reach 32767", desk.set(1000, 32767), true);
        dueFarOnes("reach 32767", desk, 0);
        due("reach 3 then", desk.set(1000, 3), false);
        dueFarOnes("reach 32767 still", desk, 0);
    }

    private static void dueFarOnes(String what, MeterDesk desk, int far) {
        due(what + ", rewrite", desk.rewrite(), 0);
        due(what + ", far ones", desk.about(4), far);
    }

    private static void setChangesNothing() {
        MeterDesk desk = freeWith(0, 0, 0, 0, 0, 167, 255, 251);
        due("set", desk.set(700, 4), true);
        due("good base, reach too low", desk.set(5, 3), false);
        due("good base, reach too high", desk.set(5, 32768), false);
        due("base too low, good reach", desk.set(-1, 100), false);
        due("base too high, good reach", desk.set(65531, 100), false);
        due("both too low", desk.set(-1, 3), false);
        dueFarOnes("reach is as it was", desk, 1);
        due("base is as it was", desk.octet(1) * 256 + desk.octet(2), 702);
    }

    // Promise 9

    private static void rewriteAnswers() {
        dueRewrite("nothing is wrong", 0, 177);
        dueRewrite("the form is wrong", 1, 255);
        dueRewrite("too long", 2, times(200, 177));
        dueRewrite("both: the form comes first", 1, join(times(199, 177), of(255)));
    }

    private static MeterDesk rewritten() {
        MeterDesk desk = with(167, 0, 3, 177);
        desk.handler(0, 4, 0, 0);
        due("rewrite", desk.rewrite(), 0);
        due("something was rewritten", desk.octet(0), 184);
        return desk;
    }

    private static void goneAfterWrongForm() {
        MeterDesk instruction = rewritten();
        instruction.change(0, 255);
        due("no instruction", instruction.rewrite(), 1);
        dueNothingRewritten("no instruction:", instruction);
        MeterDesk goal = rewritten();
        goal.change(2, 4);
        due("no goal", goal.rewrite(), 1);
        dueNothingRewritten("no goal:", goal);
        MeterDesk handler = rewritten();
        handler.handler(0, 4, 4, 0);
        due("no handler", handler.rewrite(), 1);
        dueNothingRewritten("no handler:", handler);
        MeterDesk cleared = rewritten();
        cleared.clear();
        due("cleared, not gone yet", cleared.octet(0), 184);
        due("no code", cleared.rewrite(), 1);
        dueNothingRewritten("no code:", cleared);
    }

    private static void goneAfterTooLong() {
        MeterDesk desk = rewritten();
        load(desk, times(190, 177));
        due("too long", desk.rewrite(), 2);
        dueNothingRewritten("too long:", desk);
        due("how often", desk.count(2), 1);
    }

    private static void goneAfterShorter() {
        MeterDesk desk = rewritten();
        int last = desk.about(0) - 1;
        due("the last octet", desk.octet(last), 177);
        desk.clear();
        load(desk, 0);
        due("rewrite", desk.rewrite(), 0);
        due("no octet of before", desk.octet(8), REFUSED);
        due("no last octet of before", desk.octet(last), REFUSED);
        due("no place of before", desk.moved(3, 0), REFUSED);
        due("no way back of before", desk.back(last), -1);
        due("no handler of before", desk.guard(0, 3), REFUSED);
        int[] want = {8, 1, 1, 1, 0, 1, 2, 1};
        for (int what = 0; what <= 7; what++) {
            due("about(" + what + ")", desk.about(what), want[what]);
        }
    }

    // Promise 10

    private static void octetOfNone() {
        MeterDesk desk = with(9);
        due("nothing rewritten", desk.octet(0), REFUSED);
        desk.rewrite();
        due("k -1", desk.octet(-1), REFUSED);
        due("k 0", desk.octet(0), 184);
        due("k 7", desk.octet(7), 9);
        due("k 8", desk.octet(8), REFUSED);
        for (int k : BEYOND) {
            due("k " + k, desk.octet(k), REFUSED);
        }
        MeterDesk longest = with(join(times(149, 176), times(5, 0)));
        longest.cost(0, 0);
        due("1200 octets", longest.rewrite(), 0);
        due("k 1199", longest.octet(1199), 0);
        due("k 1200", longest.octet(1200), REFUSED);
    }

    // Promise 11

    private static void movedOfNone() {
        MeterDesk desk = freeWith(17, 0, 0, 16, 0, 177);
        due("rewrite", desk.rewrite(), 0);
        int[] want = {3, REFUSED, REFUSED, 6, REFUSED, 8, REFUSED, REFUSED};
        for (int place = 0; place < want.length; place++) {
            due("place " + place, desk.moved(place, 0), want[place]);
        }
        due("place -1", desk.moved(-1, 0), REFUSED);
        for (int place : BEYOND) {
            for (int what = 0; what <= 4; what++) {
                due("moved(" + place + ", " + what + ")", desk.moved(place, what), REFUSED);
            }
        }
        MeterDesk full = freeWith(times(200, 0));
        full.rewrite();
        due("place 199", full.moved(199, 0), 202);
        due("place 200", full.moved(200, 0), REFUSED);
        due("place 201", full.moved(201, 0), REFUSED);
    }

    private static void movedOfNothing() {
        MeterDesk desk = with(0);
        for (int what = 0; what <= 4; what++) {
            due("before, what " + what, desk.moved(0, what), REFUSED);
        }
        desk.rewrite();
        int[] want = {3, 7, 8, 1, 0};
        for (int what = 0; what <= 4; what++) {
            due("then, what " + what, desk.moved(0, what), want[what]);
        }
    }

    private static void movedOthers() {
        MeterDesk desk = with(200, 0, 0, 0, 0);
        desk.rewrite();
        due("what -1", desk.moved(0, -1), REFUSED);
        due("what 0", desk.moved(0, 0), 3);
        due("what 4", desk.moved(0, 4), 1);
        due("what 5", desk.moved(0, 5), REFUSED);
        for (int what : BEYOND) {
            due("what " + what, desk.moved(0, what), REFUSED);
        }
    }

    private static void movedWithoutBlock() {
        MeterDesk desk = freeWith(0, 1, 191, 2, 3);
        desk.rewrite();
        int[] want = {0, -1, -1, 0, -1};
        for (int place = 0; place < want.length; place++) {
            due("block at " + place, desk.moved(place, 3), want[place]);
        }
        desk.cost(2, 99);
        desk.rewrite();
        due("a dear block", desk.moved(3, 3), 99);
        due("none behind it", desk.moved(4, 3), -1);
    }

    private static void movedFar() {
        MeterDesk desk = freeWith(join(times(5, 0), of(167, 255, 251), of(153, 255, 248), of(200), s4(-11),
            of(199, 0, 0), of(167, 0, 0)));
        dueMovedFar("reach 32767", desk, 32767, 0, 0);
        dueMovedFar("reach 8", desk, 8, 0, 0);
        dueMovedFar("reach 7", desk, 7, 0, 1);
        dueMovedFar("reach 5", desk, 5, 0, 1);
        dueMovedFar("reach 4", desk, 4, 1, 1);
    }

    private static void dueMovedFar(String what, MeterDesk desk, int reach, int first, int second) {
        desk.set(1000, reach);
        due(what + ", rewrite", desk.rewrite(), 0);
        due(what + ", a nop", desk.moved(0, 4), 0);
        due(what + ", 167 back over 5", desk.moved(5, 4), first);
        due(what + ", 153 back over 8", desk.moved(8, 4), second);
        due(what + ", a 200", desk.moved(11, 4), 1);
        due(what + ", 199 to itself", desk.moved(16, 4), 0);
        due(what + ", 167 to itself", desk.moved(19, 4), 0);
    }

    // Promise 12

    private static void backOfNone() {
        MeterDesk desk = with(17, 0, 0, 177);
        due("nothing rewritten", desk.back(8), -1);
        desk.rewrite();
        int[] want = {-1, -1, -1, -1, -1, -1, -1, 0, -1, -1, -1, -1, -1, 3, -1};
        due("octets", desk.about(0), 14);
        for (int place = 0; place < want.length; place++) {
            due("place " + place, desk.back(place), want[place]);
        }
        due("place -1", desk.back(-1), -1);
        for (int place : BEYOND) {
            due("place " + place, desk.back(place), -1);
        }
        MeterDesk longest = with(join(times(149, 176), times(5, 0)));
        longest.cost(0, 0);
        longest.rewrite();
        due("place 1199", longest.back(1199), 153);
        due("place 1200", longest.back(1200), -1);
    }

    private static void backOfFar() {
        MeterDesk desk = freeWith(join(times(5, 0), of(153, 255, 251, 167, 255, 248)));
        desk.set(1000, 4);
        desk.rewrite();
        int[] want = {-1, -1, -1, 0, 1, 2, 3, 4, 5, -1, -1, -1, -1, -1, -1, -1, 8, -1, -1, -1, -1, -1};
        due("octets", desk.about(0), 21);
        for (int place = 0; place < want.length; place++) {
            due("place " + place, desk.back(place), want[place]);
        }
        due("the opposite is there", desk.octet(8), 154);
        due("its 200 is there", desk.octet(11), 200);
        due("the 200 of 167 is there", desk.octet(16), 200);
    }

    // Promise 13

    private static void guardOfNone() {
        MeterDesk desk = with(0, 177);
        desk.rewrite();
        due("no handlers", desk.guard(0, 0), REFUSED);
        for (int h = 0; h < 4; h++) {
            desk.handler(0, 2, 1, 10 + h);
            due("handler " + h + " before", desk.guard(h, 3), REFUSED);
            desk.rewrite();
            due("handler " + h + " then", desk.guard(h, 3), 10 + h);
            due("handler " + (h + 1), desk.guard(h + 1, 3), REFUSED);
            due("handler -1", desk.guard(-1, 3), REFUSED);
        }
        for (int h : BEYOND) {
            due("handler " + h, desk.guard(h, 3), REFUSED);
        }
        desk.clear();
        due("the last one stays until rewritten", desk.guard(3, 3), 13);
    }

    private static void guardOthers() {
        MeterDesk desk = with(0, 177);
        for (int h = 0; h < 4; h++) {
            desk.handler(0, 2, 1, 10 + h);
        }
        desk.rewrite();
        for (int h = 0; h < 4; h++) {
            due("what -1", desk.guard(h, -1), REFUSED);
            due("what 0", desk.guard(h, 0), 3);
            due("what 1", desk.guard(h, 1), desk.about(0));
            due("what 2", desk.guard(h, 2), 8);
            due("what 3", desk.guard(h, 3), 10 + h);
            due("what 4", desk.guard(h, 4), REFUSED);
            for (int what : BEYOND) {
                due("what " + what, desk.guard(h, what), REFUSED);
            }
        }
    }

    // Promise 14

    private static void aboutNothing() {
        MeterDesk desk = new MeterDesk();
        for (int turn = 0; turn < 2; turn++) {
            for (int what = 0; what <= 7; what++) {
                due("nothing, what " + what, desk.about(what), 0);
            }
            due("nothing, what -1", desk.about(-1), REFUSED);
            due("nothing, what 8", desk.about(8), REFUSED);
            due("no code", desk.rewrite(), 1);
        }
        load(desk, 177);
        desk.rewrite();
        int[] want = {11, 1, 1, 1, 0, 1, 3, 1};
        for (int what = 0; what <= 7; what++) {
            due("one return, what " + what, desk.about(what), want[what]);
        }
    }

    private static void aboutOthers() {
        MeterDesk desk = with(177);
        desk.rewrite();
        due("what -1", desk.about(-1), REFUSED);
        due("what 0", desk.about(0), 11);
        due("what 7", desk.about(7), 1);
        due("what 8", desk.about(8), REFUSED);
        for (int what : BEYOND) {
            due("what " + what, desk.about(what), REFUSED);
        }
    }

    private static void aboutFar() {
        MeterDesk wide = freeWith(join(times(10, 0), of(200), s4(-10), of(200), s4(-15)));
        wide.set(1000, 4);
        dueFarOnes("two 200s", wide, 0);
        MeterDesk mixed = freeWith(join(times(10, 0), of(200), s4(-10), of(167, 255, 241), of(153, 255, 238)));
        mixed.set(1000, 4);
        dueFarOnes("a 200, a 167 and a 153", mixed, 2);
        mixed.set(1000, 15);
        dueFarOnes("only the last is out of reach", mixed, 1);
        mixed.set(1000, 18);
        dueFarOnes("none is out of reach", mixed, 0);
    }

    /** Each thing that can be put in, alone beside ENTER, which leaves nothing on the stack. */
    private static void aboutCallsAndPushes() {
        dueCallsAndPushes("ENTER", freeWith(0), 1, 0);
        MeterDesk charged = freeWith(0);
        charged.cost(0, 1);
        dueCallsAndPushes("CHARGE", charged, 2, 1);
        dueCallsAndPushes("LEAVE", freeWith(177), 2, 0);
        dueCallsAndPushes("SIZE", freeWith(188, 4), 2, 1);
        MeterDesk looks = freeWith(0);
        looks.handler(0, 1, 0, 0);
        dueCallsAndPushes("LOOK", looks, 2, 1);
        dueCallsAndPushes("calls and 89s of the CODE", freeWith(184, 3, 232, 89, 16, 7), 1, 0);
    }

    private static void dueCallsAndPushes(String what, MeterDesk desk, int calls, int pushes) {
        due(what + ", rewrite", desk.rewrite(), 0);
        due(what + ", calls", desk.about(6), calls);
        due(what + ", pushes", desk.about(7), pushes);
    }

    // Promises 10 to 14

    private static void asItWasThen() {
        MeterDesk desk = with(188, 4, 200, 0, 0, 0, 0, 196, 21, 0, 0, 177);
        desk.handler(0, 2, 7, 5);
        desk.handler(2, 12, 0, 0);
        due("rewrite", desk.rewrite(), 0);
        due("octets", desk.about(0), 38);
        int[] then = allAnswers(desk);
        for (int k = 0; k < 12; k++) {
            desk.change(k, 255);
        }
        desk.mark(5, true);
        desk.cost(188, 9);
        desk.set(7, 4);
        desk.code(0L, 8);
        desk.handler(1, 1, 1, 1);
        dueSame("changed", desk, then);
        desk.clear();
        dueSame("cleared", desk, then);
        desk.code(0L, 1);
        desk.handler(0, 1, 0, 77);
        dueSame("given anew", desk, then);
        due("rewrite anew", desk.rewrite(), 0);
        due("the new one", desk.guard(0, 3), 77);
        due("no old one", desk.guard(1, 3), REFUSED);
        due("the new base", desk.octet(2), 9);
    }

    private static int[] allAnswers(MeterDesk desk) {
        int[] all = new int[0];
        for (int what = 0; what <= 7; what++) {
            all = join(all, of(desk.about(what)));
        }
        for (int k = 0; k <= 38; k++) {
            all = join(all, of(desk.octet(k)));
        }
        for (int place : new int[] {0, 1, 2, 7, 11, 12}) {
            for (int what = 0; what <= 4; what++) {
                all = join(all, of(desk.moved(place, what)));
            }
            all = join(all, of(desk.back(desk.moved(place, 1))));
        }
        for (int h = 0; h <= 2; h++) {
            for (int what = 0; what <= 3; what++) {
                all = join(all, of(desk.guard(h, what)));
            }
        }
        return all;
    }

    private static void dueSame(String when, MeterDesk desk, int[] then) {
        int[] now = allAnswers(desk);
        due(when + ": how many answers", now.length, then.length);
        for (int i = 0; i < Math.min(now.length, then.length); i++) {
            due(when + ": answer " + i, now[i], then[i]);
        }
    }

    // Promise 15

    private static void countFromZero() {
        MeterDesk desk = new MeterDesk();
        for (int what = 0; what <= 2; what++) {
            due("at first, what " + what, desk.count(what), 0);
        }
        desk.rewrite();
        due("nothing was rewritten", desk.count(2), 0);
        load(desk, times(200, 0));
        due("200 octets", desk.count(0), 200);
        desk.code(0L, 1);
        due("200 octets still", desk.count(0), 200);
        for (int h = 1; h <= 4; h++) {
            desk.handler(0, 1, 0, 9);
            due("handlers", desk.count(1), h);
        }
        desk.handler(0, 1, 0, 9);
        due("4 handlers still", desk.count(1), 4);
        desk.rewrite();
        due("once", desk.count(2), 1);
        desk.change(0, 255);
        desk.rewrite();
        due("once still", desk.count(2), 1);
        desk.clear();
        due("octets after clear", desk.count(0), 0);
        due("handlers after clear", desk.count(1), 0);
        due("how often after clear", desk.count(2), 1);
    }

    private static void countOthers() {
        MeterDesk desk = with(177);
        desk.rewrite();
        due("what -1", desk.count(-1), REFUSED);
        due("what 0", desk.count(0), 1);
        due("what 2", desk.count(2), 1);
        due("what 3", desk.count(3), REFUSED);
        for (int what : BEYOND) {
            due("what " + what, desk.count(what), REFUSED);
        }
    }
}
