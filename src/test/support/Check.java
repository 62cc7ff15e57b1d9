import java.util.NoSuchElementException;

/** What tests share: answers against those that are due, and short ways to make a processor. */
abstract class Check {
    static final int SET = 0, ADD = 1, SUB = 2, MUL = 3, LESS = 4, LOAD = 5, STORE = 6, JUMP = 7, BRANCH = 8, LOOP = 9,
        OUT = 10, OUTAT = 11, IN = 12, INAT = 13, WAIT = 14, CLOCK = 15, SEND = 16, TAKE = 17, HALT = 18, RATIO = 19, PART = 20;
    static final int READY = 0, WAITS = 1, SENDS = 2, TAKES = 3, HALTED = 4, TRAPPED = 5;
    static final int MIN = Integer.MIN_VALUE, MAX = Integer.MAX_VALUE;
    private static int wrong = 0;
    private static String sentence = "";

    interface Call {
        int answer();
    }

    /** The words of the document that what follows is a test of. */
    static void at(String words) {
        sentence = words;
    }

    static void due(String what, long got, long want) {
        if (got != want) {
            wrong++;
            System.out.println(sentence + ": " + what + " answered " + got + ", due is " + want);
        }
    }

    static void due(String what, boolean got, boolean want) {
        due(what, got ? 1 : 0, want ? 1 : 0);
    }

    static boolean throwsNoSuchElement(Call call) {
        try {
            call.answer();
        } catch (NoSuchElementException e) {
            return true;
        }
        return false;
    }

    static void refused(String what, Call call) {
        due(what + " throws", throwsNoSuchElement(call), true);
    }

    /** Ends the test, with exit code 1 if an answer was not as due. */
    static void end(String allIsWell) {
        System.out.println(wrong == 0 ? allIsWell : wrong + " answers are not as due");
        if (wrong != 0) {
            System.exit(1);
        }
    }

    /** A processor whose one slot is of thread 0. */
    static BarrelSlots single() {
        return withTable(0);
    }

    static BarrelSlots withTable(int... owners) {
        BarrelSlots b = new BarrelSlots();
        b.slots(owners.length);
        for (int slot = 0; slot < owners.length; slot++) {
            b.slot(slot, owners[slot]);
        }
        return b;
    }

    /** All slots are spare, all six threads soft, each with one instruction. */
    static BarrelSlots allSoft() {
        BarrelSlots b = withTable(-1);
        for (int t = 0; t < 6; t++) {
            b.hard(t, false);
            b.tell(t, SET, 0, 0, 0);
        }
        return b;
    }

    static void code(BarrelSlots b, int thread, int[]... rows) {
        for (int[] row : rows) {
            b.tell(thread, row[0], row.length > 1 ? row[1] : 0, row.length > 2 ? row[2] : 0, row.length > 3 ? row[3] : 0);
        }
    }

    static int[] i(int... row) {
        return row;
    }

    static void isTable(BarrelSlots b, int... owners) {
        due("slots", b.count(1), owners.length);
        for (int slot = 0; slot < owners.length; slot++) {
            due("table(" + slot + ")", b.table(slot), owners[slot]);
        }
        due("table beyond", b.table(owners.length), -2);
    }

    /** State, place, rounds. */
    static void stands(String what, BarrelSlots b, int thread, int state, int place, int rounds) {
        due(what + ", state of " + thread, b.thread(thread, 0), state);
        due(what + ", place of " + thread, b.thread(thread, 1), place);
        due(what + ", rounds of " + thread, b.thread(thread, 5), rounds);
    }

    /** The i-th edge from the latest on. */
    static void isEdge(BarrelSlots b, int i, int tick, int pin, int level, int late) {
        int[] want = {tick, pin, level, late};
        for (int what = 0; what < 4; what++) {
            due("edge(" + i + ", " + what + ")", b.edge(i, what), want[what]);
        }
    }
}
