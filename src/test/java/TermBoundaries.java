/** One test for each sentence of the terms that names a boundary, on both sides of it. */
public final class TermBoundaries extends DeskTest {
    public static void main(String[] args) {
        sentence("OCTETS are 0..255", TermBoundaries::octetsAreUnsigned);
        sentence("u2: the highest first", TermBoundaries::twoOctetsHighestFirst);
        sentence("s2 signed", TermBoundaries::twoOctetsSigned);
        sentence("s4 signed", TermBoundaries::fourOctetsSigned);
        sentence("CODE has at most 200", TermBoundaries::codeOf200);
        sentence("opcode, 0..200, but for 168 and 169", TermBoundaries::opcodes);
        sentence("has behind it: nothing", TermBoundaries::nothingBehind);
        sentence("u1 for 16, 18, 21..25, 54..58, 188", TermBoundaries::oneBehind);
        sentence("two OCTETS for 17, 19, 20, 132, ..", TermBoundaries::twoBehind);
        sentence("three for 197", TermBoundaries::threeBehind);
        sentence("four for 185, 186, 200", TermBoundaries::fourBehind);
        sentence("196: one of 21..25, 54..58 and two", TermBoundaries::wideLocals);
        sentence("196: or 132 and four", TermBoundaries::wideIncrease);
        sentence("170: zeros up to the next multiple of 4", TermBoundaries::tableZeros);
        sentence("171: likewise", TermBoundaries::lookupZeros);
        sentence("zeros (not looked at)", TermBoundaries::zerosNotLookedAt);
        sentence("HIGH - LOW + 1 (1..20) times s4", TermBoundaries::tableSizes);
        sentence("HIGH - LOW + 1 does not wrap around", TermBoundaries::tableSizesDoNotWrap);
        sentence("how many (0..20), so many times s4 value, s4", TermBoundaries::lookupSizes);
        sentence("JUMPS are 153..167, 198, 199 and 200", TermBoundaries::whichAreJumps);
        sentence("from the place of the opcode", TermBoundaries::distancesFromTheOpcode);
        sentence("170: all s4 but LOW, HIGH", TermBoundaries::tableGoals);
        sentence("171: all s4 but how many and the values", TermBoundaries::lookupGoals);
        sentence("HANDLERS (at most 4)", TermBoundaries::fourHandlers);
        sentence("CAUGHT (0..255)", TermBoundaries::caughtNumbers);
        sentence("COSTS of opcodes 0..200 are 0..99, at first 1", TermBoundaries::costsOfOpcodes);
        sentence("DANGEROUS: CAUGHT 0, or one that is marked", TermBoundaries::whichAreDangerous);
        sentence("BASE (0..65530, at first 1000)", TermBoundaries::bases);
        sentence("CHARGE BASE, SIZE + 1, ENTER + 2, LEAVE + 3, LOOK + 4", TermBoundaries::callsCarry);
        sentence("REACH (4.., at first 32767)", TermBoundaries::reaches);
        sentence("FORM: there is no CODE", TermBoundaries::noCode);
        sentence("FORM: an INSTRUCTION is none", TermBoundaries::noInstruction);
        sentence("FORM: or is cut by the end", TermBoundaries::cutByTheEnd);
        sentence("FORM: a goal is no place where one begins", TermBoundaries::goalsOfJumps);
        sentence("FORM: a goal is no place (200, 170, 171)", TermBoundaries::goalsOfWords);
        sentence("FORM: FROM that is none", TermBoundaries::fromThatIsNone);
        sentence("FORM: AT that is none", TermBoundaries::atThatIsNone);
        sentence("FORM: TO that is none and not the end", TermBoundaries::toThatIsNone);
        sentence("FORM: FROM not below TO", TermBoundaries::fromNotBelowTo);
        sentence("FORM: a HANDLER (by numbers)", TermBoundaries::eachHandlerIsLookedAt);
        sentence("A BLOCK begins at place 0", TermBoundaries::blockAtZero);
        sentence("A BLOCK begins at each goal", TermBoundaries::blockAtGoals);
        sentence("A BLOCK begins at each AT", TermBoundaries::blockAtHandlers);
        sentence("A BLOCK begins behind 153..167, 170..177, 191, 198..200", TermBoundaries::blockBehind);
        sentence("COST is the sum of those of its INSTRUCTIONS", TermBoundaries::sumsOfBlocks);
        sentence("COST of 196: of the one behind it", TermBoundaries::costOfWide);
        sentence("in front: at place 0: ENTER", TermBoundaries::enterAtZero);
        sentence("in front: 89 and LOOK at a DANGEROUS AT", TermBoundaries::lookAtDangerous);
        sentence("in front: a BLOCK with a COST above 0", TermBoundaries::costAboveZero);
        sentence("COST 0 to 5: 3 + COST; to 127: 16 and u1; else 17 and u2", TermBoundaries::costForms);
        sentence("in front of 172..177: LEAVE", TermBoundaries::leaveBeforeReturns);
        sentence("in front of 188, 189: 89 and SIZE", TermBoundaries::sizeBeforeArrays);
        sentence("in this order", TermBoundaries::orderInFront);
        sentence("FRONT is where that begins, or the INSTRUCTION", TermBoundaries::fronts);
        sentence("Goals become the FRONT", TermBoundaries::goalsBecomeFronts);
        sentence("FROM, TO, AT become the FRONT; the end stays the end", TermBoundaries::handlersBecomeFronts);
        sentence("An INSTRUCTION is as it was", TermBoundaries::instructionsStay);
        sentence("a JUMP that is NEAR has the new s2", TermBoundaries::nearJumps);
        sentence("FAR: 167 is 200 and s4", TermBoundaries::farGoto);
        sentence("FAR: others are the opposite opcode and s2 8, then 200", TermBoundaries::farOthers);
        sentence("200 is as it was with the new s4", TermBoundaries::farGotoStays);
        sentence("170, 171 have their zeros and all s4 anew", TermBoundaries::switchesAnew);
        sentence("At first all JUMPS that are no 200 are NEAR", TermBoundaries::nearAtFirst);
        sentence("distance below -REACH or above REACH", TermBoundaries::outOfReach);
        sentence("are FAR from then on", TermBoundaries::farFromThenOn);
        sentence("A ROUND: all get their places", TermBoundaries::placesFirst);
        sentence("ROUNDS are done until one makes none FAR", TermBoundaries::lastRound);
        sentence("LONG: there are more than 1200 OCTETS", TermBoundaries::longerThan1200);
        sentence("LONG: more than 1200 then, when all is FAR that must be", TermBoundaries::longerThen);
        end();
    }

    // Rows of octets, and what is asked of many of them

    /** Whole INSTRUCTIONS that jump to themselves if they jump; none for what is no opcode. */
    private static int[] instruction(int op) {
        switch (op) {
            case 170: return join(of(170, 0, 0, 0), s4(0), s4(0), s4(0), s4(0));
            case 171: return join(of(171, 0, 0, 0), s4(0), s4(0));
            case 196: return of(196, 21, 0, 0);
            default: return join(of(op), times(operands(op), 0));
        }
    }

    private static int operands(int op) {
        if (in(op, 16, 18, 188) || within(op, 21, 25) || within(op, 54, 58)) {
            return 1;
        }
        boolean two = in(op, 17, 19, 20, 132, 187, 189, 192, 193, 198, 199) || within(op, 153, 167)
            || within(op, 178, 184);
        if (two) {
            return 2;
        }
        return op == 197 ? 3 : in(op, 185, 186, 200) ? 4 : 0;
    }

    private static boolean isOpcode(int op) {
        return op <= 200 && op != 168 && op != 169;
    }

    /** Neither a switch nor 196, whose lengths are told otherwise. */
    private static boolean isPlain(int op) {
        return isOpcode(op) && !in(op, 170, 171, 196);
    }

    private static boolean isShortJump(int op) {
        return within(op, 153, 167) || in(op, 198, 199);
    }

    /** A 170 behind so many octets 0, whose zeros are all the octet z. */
    private static int[] tableBehind(int before, int z, int low, int high, int entries) {
        int[] row = join(times(before, 0), of(170), times(3 - before % 4, z), s4(0), s4(low), s4(high));
        return join(row, times(4 * entries, 0));
    }

    private static int[] table(int low, int high, int entries) {
        return tableBehind(0, 0, low, high, entries);
    }

    private static int[] lookupBehind(int before, int z, int many, int entries) {
        int[] row = join(times(before, 0), of(171), times(3 - before % 4, z), s4(0), s4(many));
        return join(row, times(8 * entries, 0));
    }

    private static int[] lookup(int many, int entries) {
        return lookupBehind(0, 0, many, entries);
    }

    private static int[] jump(int op, int distance) {
        return join(of(op), s2(distance));
    }

    private static int[] farJump(int distance) {
        return join(of(200), s4(distance));
    }

    /** Of these octets, and of them without the last one. */
    private static void dueWholeAndCut(String what, int... octets) {
        dueRewrite(what + ", whole", 0, octets);
        dueRewrite(what + ", cut by one", 1, without(1, octets));
    }

    /** That the INSTRUCTION at a place has so many octets: the next one begins behind it. */
    private static void dueLength(String what, int place, int length, int... octets) {
        MeterDesk desk = with(join(octets, of(0)));
        due(what + ", rewrite", desk.rewrite(), 0);
        for (int k = 1; k < length; k++) {
            due(what + ", none begins at " + (place + k), desk.moved(place + k, 4), REFUSED);
        }
        due(what + ", one begins behind it", desk.moved(place + length, 4), 0);
    }

    private static void dueOperands(int count) {
        for (int op = 0; op <= 200; op++) {
            if (isPlain(op) && operands(op) == count) {
                dueLength("opcode " + op, 0, 1 + count, instruction(op));
                dueWholeAndCut("opcode " + op, instruction(op));
            }
        }
    }

    private static void dueFarOnes(String what, MeterDesk desk, int reach, int far, int rounds) {
        due(what + ", set", desk.set(1000, reach), true);
        due(what + ", rewrite", desk.rewrite(), 0);
        due(what + ", far ones", desk.about(4), far);
        due(what + ", rounds", desk.about(3), rounds);
    }

    // OCTETS and numbers

    private static void octetsAreUnsigned() {
        MeterDesk desk = freeWith(17, 0, 127, 17, 128, 255);
        desk.rewrite();
        dueOctets("operands", desk, join(ENTER, of(17, 0, 127, 17, 128, 255)));
        MeterDesk back = freeWith(0, 0, 0, 167, 255, 253);
        back.rewrite();
        dueOctets("a jump back", back, join(ENTER, of(0, 0, 0, 167, 255, 253)));
    }

    private static void twoOctetsHighestFirst() {
        for (int sum = 254; sum <= 257; sum++) {
            MeterDesk desk = with(0, 1, 2);
            desk.cost(0, 99);
            desk.cost(1, 99);
            desk.cost(2, sum - 198);
            desk.rewrite();
            dueOctets("cost " + sum, desk, join(ENTER, of(17), s2(sum), CHARGE, of(0, 1, 2)));
        }
    }

    private static void twoOctetsSigned() {
        for (int d : new int[] {126, 127, 128, 129, 196}) {
            MeterDesk on = freeWith(join(jump(153, d), times(d - 2, 0)));
            due("read " + d, on.rewrite(), 0);
            due("goal of " + d, on.moved(d, 3), 0);
            MeterDesk back = freeWith(join(times(d, 0), jump(153, -d)));
            due("read " + -d, back.rewrite(), 0);
            due("written " + -d, back.octet(3 + d + 1) * 256 + back.octet(3 + d + 2), 65536 - d);
        }
        for (int d : new int[] {32767, -32768, 255, 256, -256}) {
            dueRewrite("read " + d, 1, join(times(100, 0), jump(153, d), times(97, 0)));
        }
        for (int more = 0; more <= 1; more++) {
            MeterDesk on = freeWith(join(jump(153, 66 + more), times(63, 177), times(more, 0), of(0)));
            due("rewrite on", on.rewrite(), 0);
            due("written on, high", on.octet(4), more);
            due("written on, low", on.octet(5), more == 0 ? 255 : 0);
            MeterDesk back = freeWith(join(times(64, 177), times(more, 0), jump(153, -64 - more)));
            due("rewrite back", back.rewrite(), 0);
            due("written back, high", back.octet(260 + more), 255 - more);
            due("written back, low", back.octet(261 + more), more == 0 ? 0 : 255);
        }
    }

    private static void fourOctetsSigned() {
        for (int d : new int[] {127, 128, 195}) {
            MeterDesk on = freeWith(join(farJump(d), times(d - 4, 0)));
            due("read " + d, on.rewrite(), 0);
            due("goal of " + d, on.moved(d, 3), 0);
            MeterDesk back = freeWith(join(times(d, 0), farJump(-d)));
            due("read " + -d, back.rewrite(), 0);
            for (int k = 0; k < 4; k++) {
                due("written " + -d, back.octet(3 + d + 1 + k), s4(-d)[k]);
            }
        }
        // without one of its octets, each of these would be a distance to an INSTRUCTION
        for (int bit : new int[] {8, 15, 16, 23, 24, 31}) {
            dueRewrite("read 1 << " + bit, 1, join(times(100, 0), farJump(1 << bit), times(90, 0)));
            dueRewrite("read -1 - (1 << " + bit + ")", 1, join(times(100, 0), farJump(~(1 << bit)), times(90, 0)));
        }
        for (int d : new int[] {LOWEST, LOWEST + 1, HIGHEST, HIGHEST - 100, 65535, 65408, -65536}) {
            dueRewrite("read " + d, 1, join(times(100, 0), farJump(d), times(90, 0)));
        }
        for (int more = 0; more <= 1; more++) {
            MeterDesk on = freeWith(join(farJump(69 + more), times(62, 177), times(3 + more, 0)));
            due("rewrite on", on.rewrite(), 0);
            dueWord("written on", on, 4, 255 + more);
            MeterDesk back = freeWith(join(times(64, 177), times(more, 0), farJump(-64 - more)));
            due("rewrite back", back.rewrite(), 0);
            dueWord("written back", back, 3 + 256 + more + 1, -256 - more);
        }
    }

    private static void dueWord(String what, MeterDesk desk, int at, int want) {
        for (int k = 0; k < 4; k++) {
            due(what + " " + want + ", octet " + k, desk.octet(at + k), s4(want)[k]);
        }
    }

    // CODE and INSTRUCTIONS

    private static void codeOf200() {
        MeterDesk desk = freeWith(times(199, 0));
        due("the 200th", desk.code(0x1A00000000000000L, 1), 200);
        due("a 201st", desk.code(0L, 1), FULL);
        due("rewrite", desk.rewrite(), 0);
        due("instructions", desk.about(1), 200);
        due("the last one", desk.octet(202), 26);
    }

    private static void opcodes() {
        for (int op = 0; op <= 255; op++) {
            dueRewrite("opcode " + op, isOpcode(op) ? 0 : 1, instruction(op));
            dueRewrite("opcode " + op + ", more behind", isOpcode(op) ? 0 : 1, join(instruction(op), times(9, 0)));
        }
    }

    private static void nothingBehind() {
        for (int op = 0; op <= 200; op++) {
            if (isPlain(op) && operands(op) == 0) {
                dueLength("opcode " + op, 0, 1, op);
                dueRewrite("opcode " + op + " and no opcode", 1, op, 255);
            }
        }
    }

    private static void oneBehind() {
        dueOperands(1);
        for (int op : new int[] {15, 26, 53, 59}) {
            dueRewrite("a neighbour that has nothing: " + op, 1, op, 255);
        }
    }

    private static void twoBehind() {
        dueOperands(2);
        for (int op : new int[] {131, 133, 152, 177, 190, 191, 194}) {
            dueRewrite("a neighbour that has nothing: " + op, 1, op, 255);
        }
    }

    private static void threeBehind() {
        dueOperands(3);
    }

    private static void fourBehind() {
        dueOperands(4);
    }

    private static void wideLocals() {
        for (int op = 0; op <= 255; op++) {
            boolean local = within(op, 21, 25) || within(op, 54, 58);
            if (local) {
                dueLength("196 and " + op, 0, 4, 196, op, 255, 255);
                dueWholeAndCut("196 and " + op, 196, op, 255, 255);
            } else if (op != 132) {
                dueRewrite("196 and " + op, 1, 196, op, 0, 0, 0, 0, 0, 0);
            }
        }
        dueRewrite("196 alone", 1, 196);
        dueRewrite("196 and 21 alone", 1, 196, 21);
    }

    private static void wideIncrease() {
        dueLength("196 and 132", 0, 6, 196, 132, 255, 255, 255, 255);
        dueWholeAndCut("196 and 132", 196, 132, 255, 255, 255, 255);
        dueRewrite("196 and 131", 1, 196, 131, 0, 0, 0, 0);
        dueRewrite("196 and 133", 1, 196, 133, 0, 0, 0, 0);
    }

    private static void tableZeros() {
        for (int before = 0; before <= 8; before++) {
            int length = 1 + (3 - before % 4) + 16;
            dueLength("170 at " + before, before, length, tableBehind(before, 0, 5, 5, 1));
            dueWholeAndCut("170 at " + before, tableBehind(before, 0, 5, 5, 1));
        }
    }

    private static void lookupZeros() {
        for (int before = 0; before <= 8; before++) {
            int length = 1 + (3 - before % 4) + 16;
            dueLength("171 at " + before, before, length, lookupBehind(before, 0, 1, 1));
            dueWholeAndCut("171 at " + before, lookupBehind(before, 0, 1, 1));
        }
    }

    private static void zerosNotLookedAt() {
        for (int z : new int[] {1, 168, 255}) {
            for (int before = 0; before <= 3; before++) {
                dueRewrite("170 at " + before + " with " + z, 0, tableBehind(before, z, 5, 5, 1));
                dueRewrite("171 at " + before + " with " + z, 0, lookupBehind(before, z, 1, 1));
            }
        }
    }

    private static void tableSizes() {
        dueRewrite("-1", 1, table(9, 7, 20));
        dueRewrite("0", 1, table(9, 8, 20));
        dueRewrite("0, nothing behind", 1, table(9, 8, 0));
        dueWholeAndCut("1", table(9, 9, 1));
        dueLength("1", 0, 20, table(9, 9, 1));
        dueWholeAndCut("2", table(-1, 0, 2));
        dueWholeAndCut("19", table(-9, 9, 19));
        dueWholeAndCut("20", table(-9, 10, 20));
        dueLength("20", 0, 96, table(-9, 10, 20));
        dueRewrite("21", 1, table(-9, 11, 21));
        dueRewrite("22", 1, table(-9, 12, 22));
    }

    private static void tableSizesDoNotWrap() {
        dueWholeAndCut("1 at the lowest", table(LOWEST, LOWEST, 1));
        dueWholeAndCut("1 at the highest", table(HIGHEST, HIGHEST, 1));
        dueWholeAndCut("20 at the lowest", table(LOWEST, LOWEST + 19, 20));
        dueWholeAndCut("20 at the highest", table(HIGHEST - 19, HIGHEST, 20));
        dueRewrite("21 at the lowest", 1, table(LOWEST, LOWEST + 20, 21));
        dueRewrite("21 at the highest", 1, table(HIGHEST - 20, HIGHEST, 21));
        dueRewrite("0 at the highest", 1, table(HIGHEST, HIGHEST - 1, 1));
        dueRewrite("all numbers", 1, table(LOWEST, HIGHEST, 20));
        dueRewrite("would wrap to 1", 1, table(LOWEST + 1, LOWEST, 1));
        dueRewrite("would wrap to 2", 1, table(HIGHEST, LOWEST, 2));
        dueRewrite("would wrap to 20", 1, table(HIGHEST, LOWEST + 18, 20));
        dueRewrite("four times it would wrap to 4", 1, table(0, 1 << 30, 1));
    }

    private static void lookupSizes() {
        dueRewrite("-1", 1, lookup(-1, 20));
        dueRewrite("-1, nothing behind", 1, lookup(-1, 0));
        // 185 with four octets 255, if the switch ended before its default
        dueRewrite("-1, a goal that could be code", 1, join(of(171, 0, 0, 0), s4(185), s4(-1), times(188, 0)));
        dueWholeAndCut("0", lookup(0, 0));
        dueLength("0", 0, 12, lookup(0, 0));
        dueWholeAndCut("1", lookup(1, 1));
        dueWholeAndCut("19", lookup(19, 19));
        dueWholeAndCut("20", lookup(20, 20));
        dueLength("20", 0, 172, lookup(20, 20));
        dueRewrite("21", 1, lookup(21, 21));
        dueRewrite("lowest", 1, lookup(LOWEST, 20));
        dueRewrite("highest", 1, lookup(HIGHEST, 20));
        dueRewrite("eight times it would wrap to 0", 1, lookup(1 << 29, 0));
        dueRewrite("eight times it would wrap to 8", 1, lookup((1 << 29) + 1, 1));
    }

    // JUMPS

    /** Goals far outside: only a JUMP minds them. */
    private static void whichAreJumps() {
        for (int op = 0; op <= 200; op++) {
            if (isPlain(op)) {
                boolean jumps = isShortJump(op) || op == 200;
                dueRewrite("opcode " + op, jumps ? 1 : 0, join(of(op), times(operands(op), 127)));
            }
        }
        dueRewrite("behind 196", 0, 196, 21, 127, 127);
        dueRewrite("behind 196 and 132", 0, 196, 132, 127, 127, 127, 127);
    }

    private static void distancesFromTheOpcode() {
        int[][] due = {{-6, 1}, {-5, 0}, {-1, 0}, {0, 0}, {1, 1}, {2, 1}, {3, 0}, {4, 1}};
        for (int[] d : due) {
            dueRewrite("153 by " + d[0], d[1], join(times(5, 0), jump(153, d[0]), of(0)));
        }
        int[][] dueFar = {{-6, 1}, {-5, 0}, {-1, 0}, {0, 0}, {1, 1}, {4, 1}, {5, 0}, {6, 1}};
        for (int[] d : dueFar) {
            dueRewrite("200 by " + d[0], d[1], join(times(5, 0), farJump(d[0]), of(0)));
        }
        int[][] dueTable = {{-6, 1}, {-5, 0}, {-1, 0}, {0, 0}, {1, 1}, {3, 1}, {18, 1}, {19, 0}, {20, 1}};
        for (int[] d : dueTable) {
            dueRewrite("170 by " + d[0], d[1],
                join(times(5, 0), of(170, 0, 0), s4(d[0]), s4(0), s4(0), s4(d[0]), of(0)));
        }
    }

    /** A goal 1 is inside the switch itself. */
    private static void tableGoals() {
        for (int n : new int[] {1, 2, 20}) {
            int[] row = table(1, n, n);
            dueRewrite(n + " goals, LOW 1", 0, row);
            row[7] = 1;
            dueRewrite(n + " goals, default wrong", 1, row);
            row[7] = 0;
            for (int i = 0; i < n; i++) {
                row[16 + 4 * i + 3] = 1;
                dueRewrite(n + " goals, wrong is " + i, 1, row);
                row[16 + 4 * i + 3] = 0;
            }
            dueRewrite(n + " goals, what is behind is none", 0, join(row, times(8, 1)));
        }
    }

    private static void lookupGoals() {
        for (int n : new int[] {0, 1, 2, 20}) {
            int[] row = lookup(n, n);
            for (int i = 0; i < n; i++) {
                row[12 + 8 * i + 3] = 1 + i;
            }
            dueRewrite(n + " goals and values", 0, row);
            row[7] = 1;
            dueRewrite(n + " goals, default wrong", 1, row);
            row[7] = 0;
            for (int i = 0; i < n; i++) {
                row[12 + 8 * i + 7] = 1;
                dueRewrite(n + " goals, wrong is " + i, 1, row);
                row[12 + 8 * i + 7] = 0;
            }
            dueRewrite(n + " goals, what is behind is none", 0, join(row, times(8, 1)));
        }
    }

    // HANDLERS, COSTS, BASE and REACH

    private static void fourHandlers() {
        MeterDesk desk = freeWith(0, 1, 2, 3, 4);
        for (int h = 0; h < 4; h++) {
            due("handler " + h, desk.handler(h, h + 1, 4 - h, h), h + 1);
        }
        due("a fifth", desk.handler(0, 5, 4, 4), FULL);
        due("rewrite", desk.rewrite(), 0);
        for (int h = 0; h < 4; h++) {
            due("CAUGHT of " + h, desk.guard(h, 3), h);
        }
        due("no fifth", desk.guard(4, 3), REFUSED);
    }

    private static void caughtNumbers() {
        MeterDesk desk = freeWith(0);
        due("-1", desk.handler(0, 1, 0, -1), REFUSED);
        due("0", desk.handler(0, 1, 0, 0), 1);
        due("255", desk.handler(0, 1, 0, 255), 2);
        due("256", desk.handler(0, 1, 0, 256), REFUSED);
        due("rewrite", desk.rewrite(), 0);
        due("0 is kept", desk.guard(0, 3), 0);
        due("255 is kept", desk.guard(1, 3), 255);
    }

    private static void costsOfOpcodes() {
        for (int op = 0; op <= 200; op++) {
            if (isPlain(op)) {
                MeterDesk desk = with(instruction(op));
                desk.rewrite();
                due("at first, opcode " + op, desk.moved(0, 3), 1);
                due("99 for " + op, desk.cost(op, 99), 1);
                desk.rewrite();
                due("99, opcode " + op, desk.moved(0, 3), 99);
                due("100 for " + op, desk.cost(op, 100), REFUSED);
                due("0 for " + op, desk.cost(op, 0), 99);
                due("-1 for " + op, desk.cost(op, -1), REFUSED);
                desk.rewrite();
                due("0, opcode " + op, desk.moved(0, 3), 0);
            }
        }
    }

    private static void whichAreDangerous() {
        for (int marked : new int[] {1, 2, 128, 254, 255}) {
            for (int caught : new int[] {0, 1, 2, 3, 127, 128, 129, 253, 254, 255}) {
                MeterDesk desk = freeWith(0, 0);
                desk.mark(marked, true);
                desk.handler(0, 2, 1, caught);
                desk.rewrite();
                boolean dangerous = caught == 0 || caught == marked;
                due("caught " + caught + ", marked " + marked, desk.about(6), dangerous ? 2 : 1);
            }
        }
    }

    private static void bases() {
        MeterDesk desk = freeWith(0);
        desk.rewrite();
        dueOctets("at first", desk, 184, 1002 >> 8, 1002 & 255, 0);
        due("-1", desk.set(-1, 4), false);
        due("65531", desk.set(65531, 4), false);
        desk.rewrite();
        dueOctets("still", desk, 184, 1002 >> 8, 1002 & 255, 0);
        due("0", desk.set(0, 4), true);
        desk.rewrite();
        dueOctets("base 0", desk, 184, 0, 2, 0);
        due("65530", desk.set(65530, 4), true);
        desk.rewrite();
        dueOctets("base 65530", desk, 184, 255, 252, 0);
    }

    private static void callsCarry() {
        for (int base : new int[] {0, 1, 251, 252, 253, 254, 255, 256, 1000, 65275, 65280, 65530}) {
            MeterDesk desk = with(188, 10, 177);
            desk.handler(0, 3, 2, 0);
            desk.set(base, 32767);
            due("rewrite", desk.rewrite(), 0);
            dueOctets("base " + base, desk, join(
                of(184), s2(base + 2), of(4, 184), s2(base), of(89, 184), s2(base + 1), of(188, 10),
                of(89, 184), s2(base + 4), of(4, 184), s2(base), of(184), s2(base + 3), of(177)));
        }
    }

    /** The jump goes over 147 returns, each with CHARGE and LEAVE: as far as there is room for. */
    private static void reaches() {
        MeterDesk longest = with(join(jump(153, 150), times(147, 177), of(0)));
        due("rewrite", longest.rewrite(), 0);
        due("near at first", longest.moved(0, 4), 0);
        due("octets", longest.about(0), 1191);
        dueFarOnes("reach 32767", longest, 32767, 0, 1);
        dueFarOnes("reach 1179", longest, 1179, 0, 1);
        dueFarOnes("reach 1178", longest, 1178, 1, 2);
        MeterDesk four = freeWith(join(jump(153, 4), of(0, 0)));
        dueFarOnes("4 within 4", four, 4, 0, 1);
        due("3 is no reach", four.set(1000, 3), false);
        MeterDesk five = freeWith(join(jump(153, 5), of(0, 0, 0)));
        dueFarOnes("5 within 4", five, 4, 1, 2);
        dueFarOnes("5 within 5", five, 5, 0, 1);
        due("32768 is no reach", five.set(1000, 32768), false);
    }

    // FORM

    private static void noCode() {
        MeterDesk desk = new MeterDesk();
        due("no octet", desk.rewrite(), 1);
        load(desk, 0);
        due("one octet", desk.rewrite(), 0);
        desk.clear();
        due("no octet again", desk.rewrite(), 1);
    }

    private static void noInstruction() {
        for (int none : new int[] {168, 169, 201, 255}) {
            dueRewrite(none + " at place 0", 1, none, 0, 0);
            dueRewrite(none + " at place 1", 1, 0, none, 0);
            dueRewrite(none + " at the last place", 1, 0, 0, none);
            dueRewrite(none + " at place 199", 1, join(times(199, 0), of(none)));
            dueRewrite(none + " behind 16", 0, 16, none, 0);
            dueRewrite(none + " behind 16 and 0", 1, 16, 0, none);
        }
    }

    private static void cutByTheEnd() {
        for (int op = 0; op <= 200; op++) {
            if (isOpcode(op)) {
                int[] whole = instruction(op);
                dueRewrite("opcode " + op + ", whole", 0, whole);
                dueRewrite("opcode " + op + " up to 200", 0, upTo200(whole));
                for (int cut = 1; cut < whole.length; cut++) {
                    dueRewrite("opcode " + op + ", cut by " + cut, 1, without(cut, whole));
                    // elsewhere a switch has fewer zeros, and is not cut by as many
                    if (!in(op, 170, 171) || cut % 4 == 0) {
                        dueRewrite("opcode " + op + ", cut at 200", 1, upTo200(without(cut, whole)));
                    }
                }
            }
        }
    }

    private static int[] upTo200(int... last) {
        return join(times(200 - last.length, 0), last);
    }

    /** INSTRUCTIONS begin at 0, 1, 4 and 7; the end is 8. */
    private static void goalsOfJumps() {
        for (int op = 153; op <= 199; op++) {
            if (isShortJump(op)) {
                for (int goal = -2; goal <= 11; goal++) {
                    dueRewrite(op + " to " + goal, in(goal, 0, 1, 4, 7) ? 0 : 1,
                        join(of(0), jump(op, goal - 1), of(17, 0, 0, 177)));
                }
            }
        }
    }

    /** INSTRUCTIONS begin at 0, 3, 3 + length and 3 more; the end is 1 behind that. */
    private static void goalsOfWords() {
        for (int goal = -2; goal <= 30; goal++) {
            int d = goal - 3;
            dueRewrite("200 to " + goal, in(goal, 0, 3, 8, 11) ? 0 : 1,
                join(of(17, 0, 0), farJump(d), of(17, 0, 0, 177)));
            dueRewrite("170 by default to " + goal, in(goal, 0, 3, 20, 23) ? 0 : 1,
                join(of(17, 0, 0, 170), s4(d), s4(0), s4(0), s4(0), of(17, 0, 0, 177)));
            dueRewrite("170 to " + goal, in(goal, 0, 3, 20, 23) ? 0 : 1,
                join(of(17, 0, 0, 170), s4(0), s4(0), s4(0), s4(d), of(17, 0, 0, 177)));
            dueRewrite("171 by default to " + goal, in(goal, 0, 3, 12, 15) ? 0 : 1,
                join(of(17, 0, 0, 171), s4(d), s4(0), of(17, 0, 0, 177)));
            dueRewrite("171 to " + goal, in(goal, 0, 3, 20, 23) ? 0 : 1,
                join(of(17, 0, 0, 171), s4(0), s4(1), s4(0), s4(d), of(17, 0, 0, 177)));
        }
    }

    /** INSTRUCTIONS begin at 0, 2 and 5; the end is 6. */
    private static void dueHandler(int want, int from, int to, int at) {
        MeterDesk desk = with(16, 1, 17, 0, 0, 177);
        due("handler is taken", desk.handler(from, to, at, 9), 1);
        due("FROM " + from + ", TO " + to + ", AT " + at, desk.rewrite(), want);
    }

    /** 200 octets, of which each is an INSTRUCTION. */
    private static void dueFullHandler(int want, int from, int to, int at) {
        MeterDesk desk = with(times(200, 0));
        due("handler is taken", desk.handler(from, to, at, 9), 1);
        due("of 200: FROM " + from + ", TO " + to + ", AT " + at, desk.rewrite(), want);
    }

    private static void fromThatIsNone() {
        int[] want = {0, 1, 0, 1, 1, 0, 1, 1};
        for (int from = 0; from < want.length; from++) {
            dueHandler(want[from], from, 6, 0);
        }
        dueHandler(1, 200, 6, 0);
        dueFullHandler(0, 199, 200, 0);
        dueFullHandler(1, 200, 200, 0);
    }

    private static void atThatIsNone() {
        int[] want = {0, 1, 0, 1, 1, 0, 1, 1};
        for (int at = 0; at < want.length; at++) {
            dueHandler(want[at], 0, 6, at);
        }
        dueHandler(1, 0, 6, 200);
        dueFullHandler(0, 0, 200, 199);
        dueFullHandler(1, 0, 200, 200);
    }

    private static void toThatIsNone() {
        int[] want = {1, 1, 0, 1, 1, 0, 0, 1, 1};
        for (int to = 0; to < want.length; to++) {
            dueHandler(want[to], 0, to, 0);
        }
        dueHandler(1, 0, 200, 0);
        dueFullHandler(0, 0, 199, 0);
        dueFullHandler(0, 0, 200, 0);
    }

    private static void fromNotBelowTo() {
        int[] places = {0, 2, 5, 6};
        for (int f = 0; f < 3; f++) {
            for (int t = 0; t < 4; t++) {
                dueHandler(f < t ? 0 : 1, places[f], places[t], 2);
            }
        }
        dueFullHandler(0, 198, 199, 0);
        dueFullHandler(1, 199, 199, 0);
        dueFullHandler(1, 199, 198, 0);
    }

    private static void eachHandlerIsLookedAt() {
        for (int wrongOne = 0; wrongOne <= 4; wrongOne++) {
            MeterDesk desk = with(0, 177);
            for (int h = 0; h < 4; h++) {
                desk.handler(0, 2, h == wrongOne ? 2 : 1, 9);
            }
            due("wrong is " + wrongOne, desk.rewrite(), wrongOne < 4 ? 1 : 0);
        }
    }

    // BLOCKS

    private static void dueBlocks(String what, MeterDesk desk, int... costs) {
        due(what + ", rewrite", desk.rewrite(), 0);
        int blocks = 0;
        int sum = 0;
        for (int place = 0; place < costs.length; place++) {
            due(what + ", block at " + place, desk.moved(place, 3), costs[place]);
            blocks += costs[place] >= 0 ? 1 : 0;
            sum += Math.max(0, costs[place]);
        }
        due(what + ", blocks", desk.about(2), blocks);
        due(what + ", costs", desk.about(5), sum);
    }

    private static void blockAtZero() {
        dueBlocks("one", with(0), 1);
        dueBlocks("two", with(0, 0), 2, -1);
        MeterDesk full = with(times(200, 0));
        full.rewrite();
        due("blocks of 200", full.about(2), 1);
        due("cost of 200", full.moved(0, 3), 200);
    }

    private static void blockAtGoals() {
        dueBlocks("to the next", with(0, 0, 0, 167, 255, 255), 2, -1, 2, -1);
        dueBlocks("to itself", with(0, 0, 0, 167, 0, 0), 3, -1, -1, 1);
        dueBlocks("to 0", with(0, 0, 0, 167, 255, 253), 4, -1, -1, -1);
        dueBlocks("a 200", with(join(of(0, 0), farJump(-1))), 1, 2, -1);
        int[] goals = join(of(0, 0, 0, 170), s4(-1), s4(0), s4(0), s4(-2));
        dueBlocks("a 170", with(goals), 1, 1, 2, -1);
        int[] found = join(of(0, 0, 0, 171), s4(0), s4(1), s4(-1), s4(-2));
        dueBlocks("a 171", with(found), 1, 2, -1, 1);
    }

    private static void blockAtHandlers() {
        MeterDesk desk = with(0, 0, 0, 0, 0);
        desk.handler(1, 4, 2, 9);
        dueBlocks("AT 2, not FROM 1, not TO 4", desk, 2, -1, 3, -1, -1);
        desk.handler(1, 4, 4, 0);
        dueBlocks("AT 4 as well", desk, 2, -1, 2, -1, 1);
        desk.handler(0, 5, 0, 0);
        dueBlocks("AT 0 as well", desk, 2, -1, 2, -1, 1);
    }

    private static void blockBehind() {
        for (int op = 0; op <= 200; op++) {
            if (isOpcode(op)) {
                boolean ends = within(op, 153, 167) || within(op, 170, 177) || op == 191 || within(op, 198, 200);
                int[] whole = instruction(op);
                MeterDesk desk = with(join(whole, of(0)));
                due("rewrite of " + op, desk.rewrite(), 0);
                due("behind " + op, desk.moved(whole.length, 3), ends ? 1 : -1);
                MeterDesk last = with(whole);
                due("rewrite of " + op + " alone", last.rewrite(), 0);
                due("none behind the last", last.about(2), 1);
            }
        }
    }

    private static void sumsOfBlocks() {
        MeterDesk desk = with(1, 2, 167, 0, 4, 4, 5, 6);
        int[] ops = {1, 2, 167, 4, 5, 6};
        for (int i = 0; i < ops.length; i++) {
            desk.cost(ops[i], 1 << i);
        }
        dueBlocks("three", desk, 1 + 2 + 4, -1, -1, REFUSED, REFUSED, 8, 16 + 32, -1);
        MeterDesk full = with(times(200, 9));
        full.cost(9, 99);
        full.rewrite();
        due("the dearest", full.moved(0, 3), 19800);
        due("the sum", full.about(5), 19800);
    }

    private static void costOfWide() {
        for (int op : new int[] {21, 25, 54, 58, 132}) {
            MeterDesk desk = freeWith(join(of(196, op), times(op == 132 ? 4 : 2, 0)));
            desk.cost(196, 77);
            desk.rewrite();
            due("196 alone costs", desk.moved(0, 3), 0);
            desk.cost(op, 99);
            desk.rewrite();
            due("196 and " + op, desk.moved(0, 3), 99);
        }
    }

    // What stands in front

    private static void enterAtZero() {
        MeterDesk one = freeWith(0, 0);
        one.rewrite();
        dueOctets("once", one, join(ENTER, of(0, 0)));
        MeterDesk again = freeWith(join(of(0), jump(167, -1)));
        again.rewrite();
        dueOctets("a goal at 0", again, join(ENTER, of(0, 167, 255, 255)));
    }

    private static void lookAtDangerous() {
        MeterDesk desk = freeWith(0, 1, 2, 3);
        desk.handler(1, 3, 2, 0);
        desk.rewrite();
        dueOctets("AT 2", desk, join(ENTER, of(0, 1, 89), LOOK, of(2, 3)));
        desk.handler(0, 4, 2, 0);
        desk.rewrite();
        dueOctets("AT 2 twice", desk, join(ENTER, of(0, 1, 89), LOOK, of(2, 3)));
        desk.handler(0, 4, 0, 1);
        desk.rewrite();
        dueOctets("AT 0, not marked", desk, join(ENTER, of(0, 1, 89), LOOK, of(2, 3)));
        desk.mark(1, true);
        desk.rewrite();
        dueOctets("AT 0, marked", desk, join(ENTER, of(89), LOOK, of(0, 1, 89), LOOK, of(2, 3)));
        desk.handler(0, 4, 3, 255);
        desk.mark(255, true);
        desk.rewrite();
        dueOctets("AT 3, the fourth", desk,
            join(ENTER, of(89), LOOK, of(0, 1, 89), LOOK, of(2, 89), LOOK, of(3)));
    }

    private static void costAboveZero() {
        MeterDesk desk = freeWith(0, 191, 1, 1);
        desk.rewrite();
        dueOctets("no cost", desk, join(ENTER, of(0, 191, 1, 1)));
        due("a block all the same", desk.about(2), 2);
        desk.cost(1, 1);
        desk.rewrite();
        dueOctets("the second costs", desk, join(ENTER, of(0, 191, 5), CHARGE, of(1, 1)));
        desk.cost(1, 0);
        desk.cost(191, 1);
        desk.rewrite();
        dueOctets("the first costs", desk, join(ENTER, of(4), CHARGE, of(0, 191, 1, 1)));
    }

    private static void costForms() {
        dueCostForm(0);
        dueCostForm(1, 4);
        dueCostForm(4, 7);
        dueCostForm(5, 8);
        dueCostForm(6, 16, 6);
        dueCostForm(126, 16, 126);
        dueCostForm(127, 16, 127);
        dueCostForm(128, 17, 0, 128);
        dueCostForm(255, 17, 0, 255);
        dueCostForm(256, 17, 1, 0);
        dueCostForm(297, 17, 1, 41);
        MeterDesk full = with(times(200, 0));
        full.cost(0, 99);
        full.rewrite();
        due("19800: 17", full.octet(3), 17);
        due("19800, high", full.octet(4), 77);
        due("19800, low", full.octet(5), 88);
        due("19800: 184", full.octet(6), 184);
    }

    private static void dueCostForm(int sum, int... form) {
        MeterDesk desk = with(0, 1, 2);
        int first = Math.min(99, sum);
        int second = Math.min(99, sum - first);
        desk.cost(0, first);
        desk.cost(1, second);
        desk.cost(2, sum - first - second);
        desk.rewrite();
        int[] charge = sum == 0 ? of() : join(form, CHARGE);
        dueOctets("cost " + sum, desk, join(ENTER, charge, of(0, 1, 2)));
        due("pushes of " + sum, desk.about(7), sum == 0 ? 0 : 1);
        due("opcode behind cost " + sum, desk.moved(0, 1), 3 + charge.length);
        due("octets with cost " + sum, desk.moved(0, 2), 3 + charge.length + 1);
        due("FRONT behind cost " + sum, desk.moved(1, 0), 3 + charge.length + 1);
    }

    private static void leaveBeforeReturns() {
        for (int op = 0; op <= 200; op++) {
            if (isPlain(op) && !in(op, 188, 189)) {
                MeterDesk desk = freeWith(join(of(0), instruction(op)));
                desk.rewrite();
                int[] leave = within(op, 172, 177) ? LEAVE : of();
                dueOctets("opcode " + op, desk, join(ENTER, of(0), leave, instruction(op)));
            }
        }
        for (int[] whole : new int[][] {instruction(170), instruction(171)}) {
            MeterDesk desk = freeWith(whole);
            due("rewrite of " + whole[0], desk.rewrite(), 0);
            due(whole[0] + " has no LEAVE", desk.about(6), 1);
        }
    }

    private static void sizeBeforeArrays() {
        for (int op = 187; op <= 190; op++) {
            MeterDesk desk = freeWith(join(of(0), instruction(op), of(0)));
            desk.rewrite();
            int[] size = in(op, 188, 189) ? join(of(89), SIZE) : of();
            dueOctets("opcode " + op, desk, join(ENTER, of(0), size, instruction(op), of(0)));
        }
        MeterDesk multi = freeWith(197, 0, 0, 2);
        multi.rewrite();
        dueOctets("197 has none", multi, join(ENTER, of(197, 0, 0, 2)));
    }

    private static void orderInFront() {
        for (int op : new int[] {172, 177}) {
            MeterDesk desk = with(op, op);
            desk.handler(0, 2, 0, 0);
            desk.handler(0, 2, 1, 0);
            desk.rewrite();
            int[] each = join(of(89), LOOK, of(4), CHARGE, LEAVE, of(op));
            dueOctets("returns", desk, join(ENTER, each, each));
        }
        for (int op : new int[] {188, 189}) {
            MeterDesk desk = with(join(instruction(op), instruction(op)));
            desk.handler(0, instruction(op).length, 0, 0);
            desk.handler(0, instruction(op).length, instruction(op).length, 0);
            desk.rewrite();
            int[] each = join(of(89), LOOK, of(4), CHARGE, of(89), SIZE, instruction(op));
            dueOctets("arrays", desk, join(ENTER, each, each));
        }
    }

    // FRONTS

    private static void dueFront(String what, MeterDesk desk, int place, int front, int spot) {
        due(what + ", rewrite", desk.rewrite(), 0);
        due(what + ", FRONT", desk.moved(place, 0), front);
        due(what + ", opcode", desk.moved(place, 1), spot);
    }

    private static void fronts() {
        dueFront("nothing but ENTER", freeWith(0, 0), 0, 3, 3);
        dueFront("nothing", freeWith(0, 0), 1, 4, 4);
        dueFront("CHARGE at 0", with(0, 0), 0, 3, 7);
        dueFront("nothing behind CHARGE", with(0, 0), 1, 8, 8);
        dueFront("LEAVE at 0", freeWith(177), 0, 3, 6);
        dueFront("LEAVE", freeWith(0, 177), 1, 4, 7);
        dueFront("SIZE at 0", freeWith(188, 1), 0, 3, 7);
        dueFront("SIZE", freeWith(0, 188, 1), 1, 4, 8);
        MeterDesk looks = freeWith(0, 0);
        looks.handler(0, 2, 0, 0);
        looks.handler(0, 2, 1, 0);
        dueFront("LOOK at 0", looks, 0, 3, 7);
        dueFront("LOOK", looks, 1, 8, 12);
    }

    private static void goalsBecomeFronts() {
        MeterDesk desk = freeWith(join(of(188, 1), jump(153, -2), jump(153, 3), of(177)));
        desk.rewrite();
        dueOctets("behind ENTER, in front of SIZE and LEAVE", desk, join(ENTER, of(89), SIZE, of(188, 1),
            jump(153, -6), jump(153, 3), LEAVE, of(177)));
        MeterDesk charged = with(join(of(0), jump(153, 3), of(0)));
        charged.rewrite();
        dueOctets("in front of CHARGE", charged, join(ENTER, of(5), CHARGE, of(0), jump(153, 3),
            of(4), CHARGE, of(0)));
    }

    private static void handlersBecomeFronts() {
        MeterDesk desk = with(188, 1, 177, 177);
        desk.handler(0, 2, 0, 0);
        desk.handler(2, 3, 2, 0);
        desk.handler(3, 4, 3, 5);
        desk.handler(0, 4, 3, 6);
        due("rewrite", desk.rewrite(), 0);
        due("the end", desk.about(0), 37);
        int[][] want = {{3, 17, 3, 0}, {17, 29, 17, 0}, {29, 37, 29, 5}, {3, 37, 29, 6}};
        for (int h = 0; h < 4; h++) {
            for (int what = 0; what < 4; what++) {
                due("guard(" + h + ", " + what + ")", desk.guard(h, what), want[h][what]);
            }
        }
        MeterDesk full = freeWith(times(200, 0));
        full.handler(199, 200, 199, 9);
        full.handler(0, 199, 0, 9);
        full.rewrite();
        due("FROM 199", full.guard(0, 0), 202);
        due("TO 200, the end", full.guard(0, 1), 203);
        due("AT 199", full.guard(0, 2), 202);
        due("FROM 0", full.guard(1, 0), 3);
        due("TO 199", full.guard(1, 1), 202);
        due("AT 0", full.guard(1, 2), 3);
    }

    // JUMPS anew

    private static void instructionsStay() {
        for (int op = 0; op <= 200; op++) {
            if (isPlain(op) && !isShortJump(op) && op != 200) {
                for (int octet : new int[] {0, 1, 127, 128, 255}) {
                    int[] whole = join(of(op), times(operands(op), octet));
                    MeterDesk desk = with(whole);
                    due("rewrite of " + op, desk.rewrite(), 0);
                    int spot = desk.moved(0, 1);
                    due("length of " + op, desk.about(0) - spot, whole.length);
                    for (int k = 0; k < whole.length; k++) {
                        due("opcode " + op + ", octet " + k, desk.octet(spot + k), whole[k]);
                    }
                }
            }
        }
        MeterDesk wide = freeWith(196, 132, 255, 128, 127, 1, 196, 58, 255, 0);
        wide.rewrite();
        dueOctets("196", wide, join(ENTER, of(196, 132, 255, 128, 127, 1, 196, 58, 255, 0)));
    }

    private static void nearJumps() {
        for (int op = 153; op <= 199; op++) {
            if (isShortJump(op)) {
                MeterDesk desk = freeWith(join(jump(op, 5), of(188, 4), jump(op, -5), jump(op, 0)));
                desk.rewrite();
                dueOctets("opcode " + op, desk, join(ENTER, jump(op, 9), of(89), SIZE, of(188, 4),
                    jump(op, -9), jump(op, 0)));
            }
        }
    }

    private static void farGoto() {
        MeterDesk desk = freeWith(join(jump(167, 8), times(5, 0), jump(167, -8), of(0)));
        dueFarOnes("reach 8", desk, 8, 0, 1);
        dueOctets("reach 8", desk, join(ENTER, jump(167, 8), times(5, 0), jump(167, -8), of(0)));
        dueFarOnes("reach 7", desk, 7, 2, 2);
        dueOctets("reach 7", desk, join(ENTER, farJump(10), times(5, 0), farJump(-10), of(0)));
        due("FRONT behind the first", desk.moved(3, 0), 8);
        due("length of the second", desk.moved(8, 2), 5);
    }

    private static void farOthers() {
        int[] pairs = {153, 154, 155, 156, 157, 158, 159, 160, 161, 162, 163, 164, 165, 166, 198, 199};
        for (int i = 0; i < pairs.length; i++) {
            int op = pairs[i];
            int opposite = pairs[i ^ 1];
            MeterDesk desk = freeWith(join(jump(op, 8), times(5, 0), jump(op, -8), of(0)));
            dueFarOnes("reach 8", desk, 8, 0, 1);
            dueOctets("reach 8", desk, join(ENTER, jump(op, 8), times(5, 0), jump(op, -8), of(0)));
            dueFarOnes("reach 7", desk, 7, 2, 2);
            dueOctets("reach 7", desk, join(ENTER, jump(opposite, 8), farJump(10), times(5, 0),
                jump(opposite, 8), farJump(-16), of(0)));
            due("opcode of the second", desk.moved(8, 1), 16);
            due("length of the second", desk.moved(8, 2), 8);
        }
    }

    private static void farGotoStays() {
        MeterDesk desk = freeWith(join(farJump(5), of(188, 1), farJump(-7), farJump(0)));
        for (int reach : new int[] {4, 32767}) {
            dueFarOnes("reach " + reach, desk, reach, 0, 1);
            dueOctets("reach " + reach, desk, join(ENTER, farJump(5), of(89), SIZE, of(188, 1),
                farJump(-11), farJump(0)));
        }
    }

    private static void switchesAnew() {
        for (int before = 0; before <= 4; before++) {
            for (int leads = 0; leads <= 3; leads++) {
                int place = before + leads;
                int spot = 3 + before + 4 * leads;
                int[] zeros = times(3 - place % 4, 99);
                int[] newZeros = times(3 - spot % 4, 0);
                int end = place + 1 + zeros.length + 20;
                int newEnd = spot + 1 + newZeros.length + 20;
                int[] in = join(times(before, 0), times(leads, 177));
                int[] out = join(ENTER, times(before, 0));
                for (int i = 0; i < leads; i++) {
                    out = join(out, LEAVE, of(177));
                }
                MeterDesk table = freeWith(join(in, of(170), zeros,
                    s4(end - place), s4(-2), s4(-1), s4(-place), s4(0), of(177)));
                due("rewrite of 170 at " + place, table.rewrite(), 0);
                dueOctets("170 at " + place, table, join(out, of(170), newZeros,
                    s4(newEnd - spot), s4(-2), s4(-1), s4(3 - spot), s4(0), LEAVE, of(177)));
                due("length of 170", table.moved(place, 2), newEnd - spot + (place == 0 ? 3 : 0));
                MeterDesk lookup = freeWith(join(in, of(171), zeros,
                    s4(-place), s4(1), s4(LOWEST), s4(end - place - 4), of(177), of(0)));
                due("rewrite of 171 at " + place, lookup.rewrite(), 0);
                dueOctets("171 at " + place, lookup, join(out, of(171), newZeros,
                    s4(3 - spot), s4(1), s4(LOWEST), s4(newEnd - spot - 4), LEAVE, of(177), of(0)));
            }
        }
    }

    // ROUNDS

    private static void nearAtFirst() {
        MeterDesk desk = freeWith(join(jump(153, 8), times(5, 0), jump(167, -8), farJump(-11)));
        dueFarOnes("near", desk, 11, 0, 1);
        dueFarOnes("far", desk, 4, 2, 2);
        dueFarOnes("far again", desk, 4, 2, 2);
        dueFarOnes("near again", desk, 8, 0, 1);
        due("200 is not", desk.moved(11, 4), 1);
        due("153 is", desk.moved(0, 4), 0);
        due("167 is", desk.moved(8, 4), 0);
    }

    private static void outOfReach() {
        for (int op : new int[] {153, 166, 167, 198, 199}) {
            for (int d : new int[] {4, 5, 6, 20, 127, 128, 129, 190}) {
                MeterDesk on = freeWith(join(jump(op, d), times(d - 2, 0)));
                MeterDesk back = freeWith(join(times(d, 0), jump(op, -d)));
                dueFarOnes(op + " by " + d, on, d, 0, 1);
                dueFarOnes(op + " by " + -d, back, d, 0, 1);
                if (d > 4) {
                    dueFarOnes(op + " by " + d + " out of reach", on, d - 1, 1, 2);
                    dueFarOnes(op + " by " + -d + " out of reach", back, d - 1, 1, 2);
                }
            }
        }
        MeterDesk table = freeWith(join(of(170, 0, 0, 0), s4(20), s4(0), s4(0), s4(29), times(9, 0), of(0)));
        dueFarOnes("a switch has no reach", table, 4, 0, 1);
        due("a switch is not far", table.moved(0, 4), 0);
    }

    /**
     * The 153 goes back over a switch. When the 167 in front of both becomes far, the switch loses
     * two zeros, and the 153 would reach its goal again.
     */
    private static void farFromThenOn() {
        int[] lookup = join(of(171, 0, 0), s4(0), s4(0));
        MeterDesk desk = freeWith(join(jump(167, 19), of(0, 0), lookup, jump(153, -13), of(0)));
        dueFarOnes("reach 20", desk, 20, 0, 1);
        dueFarOnes("reach 14", desk, 14, 1, 2);
        due("153 near", desk.moved(16, 4), 0);
        due("nearer than at first", desk.moved(16, 1) - desk.moved(3, 0), 12);
        dueFarOnes("reach 13", desk, 13, 2, 2);
        due("153 far from then on", desk.moved(16, 4), 1);
        due("though it would reach", desk.moved(16, 1) - desk.moved(3, 0), 12);
    }

    /** In both, each jump is put out of reach only by the places of the round before. */
    private static void placesFirst() {
        MeterDesk on = freeWith(join(jump(167, 6), jump(167, 6), jump(167, 7), times(5, 0)));
        dueFarOnes("on, reach 7", on, 7, 0, 1);
        dueFarOnes("on, reach 6", on, 6, 3, 4);
        MeterDesk back = freeWith(join(jump(167, 12), times(3, 0), jump(167, -6), times(3, 0), jump(167, -6)));
        dueFarOnes("back, reach 12", back, 12, 0, 1);
        dueFarOnes("back, reach 6", back, 6, 3, 4);
        dueFarOnes("back, reach 8", back, 8, 1, 2);
        dueFarOnes("back, reach 7", back, 7, 3, 4);
    }

    private static void lastRound() {
        dueFarOnes("no jumps", freeWith(0), 4, 0, 1);
        dueFarOnes("only a 200", freeWith(farJump(0)), 4, 0, 1);
        dueFarOnes("a near jump", freeWith(jump(153, 0)), 4, 0, 1);
        dueFarOnes("a far jump", freeWith(join(jump(153, 5), times(3, 0))), 4, 1, 2);
        dueFarOnes("two at once", freeWith(join(jump(153, 6), jump(153, 6), times(4, 0))), 4, 2, 2);
        dueFarOnes("one by the other", freeWith(join(jump(153, 4), of(0), jump(153, 5), times(3, 0))), 4, 1, 2);
        dueFarOnes("one after the other", freeWith(join(jump(153, 6), jump(153, 7), times(5, 0))), 6, 2, 3);
    }

    // LONG

    /** ENTER, 149 returns with CHARGE and LEAVE, and so many free octets. */
    private static void longerThan1200() {
        for (int free = 4; free <= 7; free++) {
            MeterDesk desk = with(join(times(149, 176), times(free, 0)));
            desk.cost(0, 0);
            due(1195 + free + " octets", desk.rewrite(), free <= 5 ? 0 : 2);
            due("octets there are", desk.about(0), free <= 5 ? 1195 + free : 0);
        }
        MeterDesk longest = with(times(200, 177));
        due("1603 octets", longest.rewrite(), 2);
        due("no octets", longest.about(0), 0);
    }

    /** The goto is far if REACH is below 8, and then has two octets more. */
    private static void longerThen() {
        for (int free = 3; free <= 6; free++) {
            MeterDesk desk = with(join(jump(167, 8), times(5, 0), times(148, 176), times(free, 0)));
            desk.cost(0, 0);
            desk.cost(167, 0);
            desk.set(1000, 8);
            int near = 1195 + free;
            due(near + " octets, near", desk.rewrite(), near <= 1200 ? 0 : 2);
            desk.set(1000, 7);
            due(near + 2 + " octets, far", desk.rewrite(), near + 2 <= 1200 ? 0 : 2);
            due("octets there are", desk.about(0), near + 2 <= 1200 ? near + 2 : 0);
        }
    }
}
