import java.util.Arrays;

/** What the tests share: desks made from octets, and the telling of answers that are not due. */
abstract class DeskTest {
    static final int REFUSED = -1, FULL = -2;
    static final int LOWEST = Integer.MIN_VALUE, HIGHEST = Integer.MAX_VALUE;
    /** The calls at the BASE of a new object, which is 1000. */
    static final int[] CHARGE = {184, 3, 232}, SIZE = {184, 3, 233}, ENTER = {184, 3, 234};
    static final int[] LEAVE = {184, 3, 235}, LOOK = {184, 3, 236};

    private static String said = "";
    private static int sentences = 0;
    private static int looked = 0;
    private static int wrong = 0;

    /** Runs the test of one sentence; one that throws, or looks at no answer, has failed. */
    static void sentence(String words, Runnable test) {
        int before = looked;
        said = "[" + words + "] ";
        sentences++;
        try {
            test.run();
        } catch (RuntimeException e) {
            fail("threw " + e);
        }
        if (looked == before) {
            fail("looks at no answer");
        }
        said = "";
    }

    /** To be called last: the exit code says whether all was as due. */
    static void end() {
        String of = sentences == 0 ? "" : sentences + " sentences, ";
        System.out.println(of + looked + " answers looked at, " + wrong + " not as due");
        if (wrong != 0) {
            System.exit(1);
        }
    }

    private static void fail(String what) {
        wrong++;
        System.out.println(said + what);
    }

    static void due(String what, long got, long want) {
        looked++;
        if (got != want) {
            fail(what + " answered " + got + ", due is " + want);
        }
    }

    static void due(String what, boolean got, boolean want) {
        looked++;
        if (got != want) {
            fail(what + " answered " + got + ", due is " + want);
        }
    }

    static void dueOctets(String what, MeterDesk desk, int... want) {
        due(what + ": about(0)", desk.about(0), want.length);
        for (int k = 0; k < want.length; k++) {
            due(what + ": octet(" + k + ")", desk.octet(k), want[k]);
        }
        due(what + ": octet behind the end", desk.octet(want.length), REFUSED);
    }

    static void dueRewrite(String what, int want, int... octets) {
        due(what, with(octets).rewrite(), want);
    }

    static void load(MeterDesk desk, int... octets) {
        for (int i = 0; i < octets.length; i += 8) {
            int n = Math.min(8, octets.length - i);
            long w = 0;
            for (int k = 0; k < n; k++) {
                w |= (long) octets[i + k] << (56 - 8 * k);
            }
            due("code while loading", desk.code(w, n), desk.count(0));
        }
    }

    static MeterDesk with(int... octets) {
        MeterDesk desk = new MeterDesk();
        load(desk, octets);
        return desk;
    }

    /** An object on which nothing costs anything, so that blocks put nothing in. */
    static MeterDesk freeWith(int... octets) {
        MeterDesk desk = with(octets);
        for (int op = 0; op <= 200; op++) {
            desk.cost(op, 0);
        }
        return desk;
    }

    static int[] join(int[]... rows) {
        int[] all = new int[0];
        for (int[] row : rows) {
            int before = all.length;
            all = Arrays.copyOf(all, before + row.length);
            System.arraycopy(row, 0, all, before, row.length);
        }
        return all;
    }

    static int[] times(int n, int v) {
        int[] row = new int[n];
        Arrays.fill(row, v);
        return row;
    }

    static int[] of(int... octets) {
        return octets;
    }

    static int[] without(int last, int... octets) {
        return Arrays.copyOf(octets, octets.length - last);
    }

    static int[] s2(int v) {
        return of(v >> 8 & 255, v & 255);
    }

    static int[] s4(int v) {
        return of(v >> 24 & 255, v >> 16 & 255, v >> 8 & 255, v & 255);
    }

    static boolean in(int op, int... values) {
        for (int value : values) {
            if (op == value) {
                return true;
            }
        }
        return false;
    }

    static boolean within(int op, int first, int last) {
        return op >= first && op <= last;
    }
}
