import java.util.ArrayList;
import java.util.List;

/** Each promise's calls: what is just within is taken, what is just outside is refused and changes nothing. */
public final class CallTests extends Check {
    private static final int[] NO_THREAD = {-1, 6, MIN, MAX};
    private static final int[] NO_REGISTER = {-1, 8, MIN, MAX};

    interface On {
        int answer(BarrelSlots b);
    }

    private static final List<Integer> UNTOUCHED = print(rich());

    public static void main(String[] args) {
        newObject();
        tell();
        tellOperands();
        wipe();
        wipeStates();
        memory();
        hard();
        pin();
        event();
        eventAtTheLastTick();
        slots();
        slot();
        due();
        asks();
        found();
        start();
        run();
        set();
        register();
        cell();
        codeOf();
        threadOf();
        level();
        edge();
        channel();
        table();
        bound();
        span();
        will();
        willWithin300();
        alone();
        aloneAsWiped();
        ahead();
        share();
        count();
        end("all boundaries of the calls hold");
    }

    /** All six states, a begun loop, edges, cells and an event to come: what a call changes shows in print(). */
    private static BarrelSlots rich() {
        BarrelSlots b = withTable(0, 1, 2, 3, 4, 5, -1);
        b.pin(0, true);
        b.pin(4, false);
        b.event(4, 1, true);
        b.event(4, 45, false);
        b.memory(0, 2);
        b.hard(0, false);
        b.due(0, 50);
        b.due(1, 60);
        b.asks(0, 4);
        b.asks(1, 3);
        code(b, 0, i(ADD, 1, 1, 2), i(STORE, 1, 3), i(OUT, 0, 1), i(LOOP, 7, 0), i(TAKE, 1, 4));
        code(b, 1, i(OUTAT, 0, 1, 2), i(SET, 5, 5));
        code(b, 2, i(SEND, 1, 1), i(IN, 4, 2));
        code(b, 3, i(TAKE, 2, 1), i(SET, 5, 5));
        code(b, 4, i(HALT), i(SET, 5, 5));
        code(b, 5, i(LOAD, 0, 0), i(SET, 5, 5));
        b.set(0, 2, 1);
        b.set(1, 1, 1);
        b.set(1, 2, 50);
        b.set(2, 1, 77);
        b.run(20);
        return b;
    }

    /** All that can be seen, and what it comes to; with rich() below 512 calls. */
    private static List<Integer> print(BarrelSlots b) {
        List<Integer> all = new ArrayList<>();
        int[] cells = {2, 0, 0, 0, 0, 0};
        int[] places = {5, 2, 2, 2, 2, 2};
        for (int t = 0; t < 6; t++) {
            for (int what = 0; what <= 12; what++) {
                all.add(b.thread(t, what));
            }
            for (int r = 0; r < 8; r++) {
                all.add(b.register(t, r));
            }
            for (int c = 0; c < cells[t]; c++) {
                all.add(b.cell(t, c));
            }
            for (int p = 0; p < places[t] * 5; p++) {
                all.add(b.code(t, p / 5, p % 5));
            }
        }
        for (int k = 0; k < 16; k++) {
            all.add(b.level(k / 2, k % 2));
            all.add(b.edge(k / 4, k % 4));
            all.add(b.table(k));
            all.add(b.count(k % 13));
        }
        for (int k = 0; k < 12; k++) {
            all.add(b.channel(k / 3, k % 3));
        }
        all.add(b.run(60));
        for (int what = 0; what < 13; what++) {
            all.add(b.count(what));
        }
        for (int t = 0; t < 6; t++) {
            all.add(b.thread(t, 3));
            all.add(b.register(t, 1));
            all.add(b.register(t, 4));
        }
        all.add(b.level(4, 0));
        return all;
    }

    /** On the rich object the call answers what is due, and nothing is another than without it. */
    private static void untouched(String what, On call, int want) {
        BarrelSlots b = rich();
        due(what, call.answer(b), want);
        due(what + " changes nothing", print(b).equals(UNTOUCHED), true);
    }

    private static void untouched(String what, On call) {
        BarrelSlots b = rich();
        call.answer(b);
        due(what + " changes nothing", print(b).equals(UNTOUCHED), true);
    }

    private static void thrown(String what, On call) {
        BarrelSlots b = rich();
        refused(what, () -> call.answer(b));
        due(what + " changes nothing", print(b).equals(UNTOUCHED), true);
    }

    private static int bit(boolean answer) {
        return answer ? 1 : 0;
    }

    private static void newObject() {
        at("Promise 1: No CODE");
        BarrelSlots b = new BarrelSlots();
        for (int t = 0; t < 6; t++) {
            int thread = t;
            due("instructions", b.thread(t, 8), 0);
            refused("place 0", () -> b.code(thread, 0, 0));
            due("wipes none", b.wipe(t), 0);
        }
        due("does nothing", b.run(200), 0);
        due("all lost", b.count(4), 200);
        for (int t = 0; t < 6; t++) {
            stands("stays so", b, t, READY, 0, 0);
            due("hard", b.thread(t, 9), 1);
            due("no due", b.thread(t, 11), 0);
            due("nothing asked", b.thread(t, 12), 0);
            due("no memory", b.thread(t, 10), -1);
        }
        BarrelSlots c = new BarrelSlots();
        c.set(0, 0, 5);
        c.tell(0, SET, 0, 0, 0);
        due("of its own", new BarrelSlots().register(0, 0) + new BarrelSlots().thread(0, 8), 0);
    }

    private static void tell() {
        at("Promise 2: One INSTRUCTION more of a THREAD: its PLACE; NONE: others");
        for (int t : NO_THREAD) {
            untouched("tell of thread " + t, b -> b.tell(t, SET, 0, 0, 0), -1);
        }
        int[] noKind = {-1, 21, MIN, MAX};
        for (int kind : noKind) {
            untouched("tell of kind " + kind, b -> b.tell(0, kind, 0, 0, 0), -1);
        }
        at("Promise 2: NONE: 24 there are");
        BarrelSlots b = new BarrelSlots();
        for (int place = 0; place < 23; place++) {
            b.tell(5, HALT, 0, 0, 0);
        }
        due("the 24th", b.tell(5, SET, 0, 0, 0), 23);
        for (int kind = 0; kind <= 20; kind++) {
            due("a 25th of kind " + kind, b.tell(5, kind, 0, 0, 0), -1);
        }
        due("still", b.code(5, 23, 0), SET);
        due("how many", b.thread(5, 8), 24);
    }

    private static void tellOperands() {
        at("Promise 2: of x, y, z each that is a REGISTER, a PIN 0 to 7, a CHANNEL 0 to 3, .. ; else any");
        // r a register or a pin, c a channel, l x of LOOP, j y of JUMP and BRANCH, p y of LOOP, - any
        String[] shapes = {"r--", "rrr", "rrr", "rrr", "rrr", "rr-", "rr-", "-j-", "rj-", "lp-", "rr-", "rrr", "rr-", "rrr", "r--",
            "r--", "cr-", "cr-", "---", "rrr", "rrr"};
        int[] tries = {MIN, -1, 0, 3, 4, 5, 7, 8, 23, 24, MAX};
        for (int kind = 0; kind <= 20; kind++) {
            for (int k = 0; k < 3; k++) {
                for (int v : tries) {
                    BarrelSlots b = new BarrelSlots();
                    code(b, 2, i(HALT), i(HALT), i(HALT), i(HALT));
                    int[] xyz = {0, 0, 0};
                    xyz[k] = v;
                    char shape = shapes[kind].charAt(k);
                    int top = shape == 'c' ? 3 : shape == 'j' ? 23 : shape == 'p' ? 4 : 7;
                    boolean fits = shape == '-' || (v >= 0 && v <= top);
                    String what = "kind " + kind + " with " + v + " as its " + (k + 1) + ".";
                    due(what, b.tell(2, kind, xyz[0], xyz[1], xyz[2]), fits ? 4 : -1);
                    due(what + ", how many", b.thread(2, 8), fits ? 5 : 4);
                    if (fits) {
                        due(what + ", as told", b.code(2, 4, k + 1), v);
                    }
                }
            }
        }
        at("Promise 2: y of LOOP 0 to its own PLACE");
        BarrelSlots b = new BarrelSlots();
        for (int place = 0; place < 24; place++) {
            due("behind it", b.tell(0, LOOP, 0, place + 1, 0), -1);
            due("its own", b.tell(0, LOOP, 0, place, 0), place);
        }
        due("its own, of a 25th", b.tell(0, LOOP, 0, 24, 0), -1);
    }

    private static void wipe() {
        at("Promise 3: how many INSTRUCTIONS it had; NONE: none such");
        for (int t : NO_THREAD) {
            untouched("wipe of thread " + t, b -> b.wipe(t), -1);
        }
        BarrelSlots b = single();
        due("none", b.wipe(0), 0);
        for (int n = 1; n <= 24; n++) {
            for (int k = 0; k < n; k++) {
                b.tell(0, SET, 0, 0, 0);
            }
            due("all of " + n, b.wipe(0), n);
        }
        due("none again", b.wipe(0), 0);
        due("of no others", rich().wipe(5), 2);
        BarrelSlots c = rich();
        c.wipe(5);
        due("of 0", c.thread(0, 8), 5);
        due("of 4", c.thread(4, 8), 2);
    }

    private static void wipeStates() {
        at("Promise 3: its PLACE is 0, it is READY (WAITS for nothing, is at no CHANNEL)");
        int[] states = {WAITS, SENDS, TAKES, HALTED, TRAPPED};
        int[] threads = {1, 2, 3, 4, 5};
        for (int k = 0; k < threads.length; k++) {
            BarrelSlots b = rich();
            int t = threads[k];
            int done = b.thread(t, 3);
            int register = b.register(t, 1);
            due("state of " + t, b.thread(t, 0), states[k]);
            b.wipe(t);
            due("ready", b.thread(t, 0), READY);
            due("place", b.thread(t, 1), 0);
            due("trap", b.thread(t, 2), 0);
            due("till", b.thread(t, 6), -1);
            due("trapped ones", b.count(10), t == 5 ? 0 : 32);
            due("senders", b.channel(1, 0), t == 2 ? 0 : 1);
            due("first sender", b.channel(1, 2), t == 2 ? -1 : 2);
            due("takers", b.channel(2, 1), t == 3 ? 0 : 1);
            due("done stays", b.thread(t, 3), done);
            due("register stays", b.register(t, 1), register);
            b.run(7);
            due("no turn without a code", b.thread(t, 3), done);
            b.tell(t, CLOCK, 7, 0, 0);
            b.run(7);
            due("its turn again", b.thread(t, 3), done + 1);
        }
        at("Promise 3: one in the midst of those at a CHANNEL");
        BarrelSlots b = withTable(0, 1, 2, 3);
        for (int t = 0; t < 3; t++) {
            code(b, t, i(SEND, 0, 0));
            b.set(t, 0, 10 + t);
        }
        code(b, 3, i(WAIT, 1), i(TAKE, 0, 0));
        b.set(3, 1, 4);
        b.run(4);
        b.wipe(1);
        due("two send", b.channel(0, 0), 2);
        due("the first", b.channel(0, 2), 0);
        b.run(4);
        due("of the first", b.register(3, 0), 10);
        due("the next is not the wiped one", b.channel(0, 2), 2);
        at("Promise 3: LOOPS of a new CODE are as not begun");
        BarrelSlots c = single();
        code(c, 0, i(LOOP, 7, 0));
        c.run(3);
        c.wipe(0);
        code(c, 0, i(LOOP, 2, 0), i(HALT));
        due("not begun", c.code(0, 0, 4), 0);
        c.run(3);
        due("twice back, then on", c.thread(0, 1), 1);
    }

    private static void memory() {
        at("Promise 4: -2: no such THREAD, n is above 16");
        for (int t : NO_THREAD) {
            untouched("memory of thread " + t, b -> b.memory(t, 1), -2);
            untouched("memory of thread " + t + ", none", b -> b.memory(t, -1), -2);
        }
        int[] above = {17, 18, MAX};
        for (int n : above) {
            untouched("memory of " + n, b -> b.memory(0, n), -2);
        }
        untouched("none where none is", b -> b.memory(5, -1), -1);
        at("Promise 4: how many CELLS the one before had (NONE: there was none)");
        BarrelSlots b = new BarrelSlots();
        int[] sizes = {16, 0, 1, -1, 0, 15, MIN, 16, 16, -1, -1};
        int before = -1;
        for (int n : sizes) {
            due("memory of " + n, b.memory(5, n), before);
            before = n < 0 ? -1 : n;
            due("cells", b.thread(5, 10), before);
        }
        at("Promise 4: A MEMORY of n CELLS, all 0");
        BarrelSlots c = rich();
        due("had", c.cell(0, 0) != 0, true);
        due("the same size", c.memory(0, 2), 2);
        due("0", c.cell(0, 0), 0);
        at("Promise 4: n below 0: none such, it has none then");
        due("taken", c.memory(0, -1), 2);
        refused("no cell", () -> c.cell(0, 0));
        c.memory(0, 2);
        due("0 again", c.cell(0, 0), 0);
    }

    private static void hard() {
        at("Promise 5: false: others, it is so already");
        for (int t : NO_THREAD) {
            untouched("hard of thread " + t, b -> bit(b.hard(t, true)), 0);
            untouched("soft of thread " + t, b -> bit(b.hard(t, false)), 0);
        }
        untouched("hard already", b -> bit(b.hard(5, true)), 0);
        untouched("soft already", b -> bit(b.hard(0, false)), 0);
        at("Promise 5: A THREAD is HARD, or SOFT: true");
        for (int t = 0; t < 6; t++) {
            BarrelSlots b = new BarrelSlots();
            due("soft", b.hard(t, false), true);
            for (int other = 0; other < 6; other++) {
                due("of " + other, b.thread(other, 9), other == t ? 0 : 1);
            }
            due("hard", b.hard(t, true), true);
            due("is", b.thread(t, 9), 1);
        }
    }

    private static void pin() {
        at("Promise 6: false: others, it is one already, its BANK has the other kind");
        int[] noPin = {-1, 8, MIN, MAX};
        for (int p : noPin) {
            untouched("out pin " + p, b -> bit(b.pin(p, true)), 0);
            untouched("in pin " + p, b -> bit(b.pin(p, false)), 0);
        }
        untouched("out already", b -> bit(b.pin(0, true)), 0);
        untouched("out already, in", b -> bit(b.pin(0, false)), 0);
        untouched("in already", b -> bit(b.pin(4, false)), 0);
        untouched("in already, out", b -> bit(b.pin(4, true)), 0);
        untouched("a bank of out ones", b -> bit(b.pin(3, false)), 0);
        untouched("a bank of in ones", b -> bit(b.pin(7, true)), 0);
        BarrelSlots b = rich();
        due("the bank's own kind", b.pin(3, true), true);
        due("the bank's own kind", b.pin(7, false), true);
        BarrelSlots c = rich();
        c.start();
        due("it is one already behind start", c.pin(0, true), false);
        due("its bank has its kind still", c.pin(1, false), false);
    }

    private static void event() {
        at("Promise 7: NONE: others (no IN PIN, a tick that is before NOW or above 99999)");
        int[] noPin = {-1, 8, MIN, MAX, 0, 1, 5};
        for (int p : noPin) {
            untouched("event of pin " + p, b -> b.event(p, 50, true), -1);
        }
        int[] noTick = {19, 0, -1, MIN, 100000, MAX};
        for (int tick : noTick) {
            untouched("event of tick " + tick + " in 20", b -> b.event(4, tick, true), -1);
        }
        BarrelSlots b = rich();
        due("now", b.event(4, 20, false), 3);
        due("the last tick", b.event(4, 99999, false), 4);
        b.run(1);
        due("it came", b.level(4, 0), 0);
        at("Promise 7: how many there are; NONE: 32 there are");
        BarrelSlots c = new BarrelSlots();
        c.pin(7, false);
        for (int n = 1; n <= 32; n++) {
            due("the " + n + ".", c.event(7, 99999 - n, true), n);
        }
        due("a 33rd", c.event(7, 0, true), -1);
        c.run(1);
        due("does not come", c.level(7, 0), 0);
        c.start();
        due("nor behind start", c.event(7, 0, true), -1);
    }

    private static void eventAtTheLastTick() {
        at("Promise 7: above 99999, where NOW is that far");
        BarrelSlots b = new BarrelSlots();
        b.pin(0, false);
        for (int k = 0; k < 499; k++) {
            b.run(200);
        }
        b.run(199);
        due("now", b.count(0), 99999);
        due("the tick ahead", b.event(0, 99998, true), -1);
        due("now", b.event(0, 99999, true), 1);
        b.run(1);
        due("it came", b.level(0, 0), 1);
        due("behind it, now", b.event(0, 100000, false), -1);
        due("behind it", b.event(0, 99999, false), -1);
    }

    private static void slots() {
        at("Promise 8: how many it had; NONE: others");
        int[] no = {0, -1, 17, MIN, MAX};
        for (int n : no) {
            untouched("slots " + n, b -> b.slots(n), -1);
        }
        untouched("as many as it has", b -> b.slots(7), 7);
        at("Promise 8: The TABLE has n SLOTS, those that are new SPARE");
        int had = 1;
        BarrelSlots b = new BarrelSlots();
        for (int n = 1; n <= 16; n++) {
            due("slots " + n, b.slots(n), had);
            had = n;
            due("the new one", b.table(n - 1), -1);
            b.slot(n - 1, n % 6);
        }
        due("none spare", b.count(2), 0);
        due("to 9", b.slots(9), 16);
        due("to 16", b.slots(16), 9);
        for (int slot = 0; slot < 16; slot++) {
            due("slot " + slot, b.table(slot), slot < 9 ? (slot + 1) % 6 : -1);
        }
        due("spare", b.count(2), 7);
    }

    private static void slot() {
        at("Promise 9: A SLOT is of a THREAD (NONE: SPARE): true; false: others");
        int[] noSlot = {-1, 7, 16, MIN, MAX};
        for (int s : noSlot) {
            untouched("slot " + s, b -> bit(b.slot(s, 0)), 0);
            untouched("slot " + s + " spare", b -> bit(b.slot(s, -1)), 0);
        }
        int[] noThread = {-2, 6, MIN, MAX};
        for (int t : noThread) {
            untouched("slot of " + t, b -> bit(b.slot(0, t)), 0);
        }
        untouched("as it is", b -> bit(b.slot(0, 0)), 1);
        untouched("spare as it is", b -> bit(b.slot(6, -1)), 1);
        BarrelSlots b = rich();
        due("the last", b.slot(6, 5), true);
        due("is", b.table(6), 5);
        due("spare", b.slot(0, -1), true);
        due("is", b.table(0), -1);
        due("how many", b.count(2), 1);
    }

    private static void due() {
        at("Promise 10: DUE: what it was; NONE: others (1 to 9999; 0: none)");
        for (int t : NO_THREAD) {
            untouched("due of thread " + t, b -> b.due(t, 1), -1);
        }
        int[] no = {-1, 10000, MIN, MAX};
        for (int ticks : no) {
            untouched("due " + ticks, b -> b.due(0, ticks), -1);
        }
        BarrelSlots b = new BarrelSlots();
        int[] yes = {1, 9999, 0, 9998, 2, 2};
        int was = 0;
        for (int ticks : yes) {
            due("due " + ticks, b.due(5, ticks), was);
            was = ticks;
            due("is", b.thread(5, 11), ticks);
        }
        due("of another", b.thread(4, 11), 0);
    }

    private static void asks() {
        at("Promise 11: ASKED: what it was; NONE: others (1 to 16; 0: none)");
        for (int t : NO_THREAD) {
            untouched("asks of thread " + t, b -> b.asks(t, 1), -1);
        }
        int[] no = {-1, 17, MIN, MAX};
        for (int gap : no) {
            untouched("asks " + gap, b -> b.asks(0, gap), -1);
        }
        BarrelSlots b = new BarrelSlots();
        int[] yes = {1, 16, 0, 15, 2, 2};
        int was = 0;
        for (int gap : yes) {
            due("asks " + gap, b.asks(5, gap), was);
            was = gap;
            due("is", b.thread(5, 12), gap);
        }
        isTable(b, -1);
        due("of another", b.thread(4, 12), 0);
    }

    private static void found() {
        at("Promise 12: 0; why it is REFUSED (it stays)");
        BarrelSlots one = rich();
        one.asks(2, 2);
        due("4, 3, 2", one.found(), 1);
        isTable(one, 0, 1, 2, 3, 4, 5, -1);
        BarrelSlots two = rich();
        two.asks(0, 2);
        two.asks(2, 6);
        due("2, 3, 6", two.found(), 2);
        isTable(two, 0, 1, 2, 3, 4, 5, -1);
        BarrelSlots three = rich();
        three.asks(0, 2);
        three.asks(1, 13);
        three.asks(2, 16);
        due("2, 13, 16", three.found(), 3);
        isTable(three, 0, 1, 2, 3, 4, 5, -1);
        BarrelSlots none = rich();
        due("4, 3", none.found(), 0);
        // less t: (4, 3) 1 | (3, 3) 0 | (4, 2) 1 | (3, 3) as 2 ago
        isTable(none, 0, 1);
        due("the time goes on", none.count(0), 20);
        due("states stay", none.thread(3, 0), TAKES);
    }

    private static void start() {
        at("Promise 13: START: NOW as it was");
        BarrelSlots b = new BarrelSlots();
        due("at first", b.start(), 0);
        b.run(200);
        due("behind 200", b.start(), 200);
        due("now", b.count(0), 0);
        due("again", b.start(), 0);
        b.run(1);
        due("behind 1", b.start(), 1);
        BarrelSlots c = rich();
        c.start();
        // all that rich() set by hand is 0 by then: set again, it comes to the same
        c.set(0, 2, 1);
        c.set(1, 1, 1);
        c.set(1, 2, 50);
        c.set(2, 1, 77);
        c.run(20);
        due("all from the beginning", c.thread(0, 3) == rich().thread(0, 3) && c.count(6) == rich().count(6), true);
    }

    private static void run() {
        at("Promise 14: So many TICKS (1 to 200): how many INSTRUCTIONS were done; NONE: others");
        int[] no = {0, -1, 201, MIN, MAX};
        for (int n : no) {
            untouched("run " + n, b -> b.run(n), -1);
        }
        BarrelSlots b = withTable(0, 1, -1);
        code(b, 0, i(SET));
        code(b, 1, i(SET));
        due("1", b.run(1), 1);
        due("now", b.count(0), 1);
        due("200", b.run(200), 133);
        due("now", b.count(0), 201);
        due("199", b.run(199), 133);
        due("now", b.count(0), 400);
        due("all", b.count(5), 267);
    }

    private static void set() {
        at("Promise 15: A REGISTER is v: what it was; NoSuchElementException: others");
        for (int t : NO_THREAD) {
            thrown("set of thread " + t, b -> b.set(t, 0, 1));
        }
        for (int r : NO_REGISTER) {
            thrown("set of register " + r, b -> b.set(0, r, 1));
        }
        thrown("set of neither", b -> b.set(6, 8, 1));
        BarrelSlots b = new BarrelSlots();
        int[] values = {MIN, MAX, -1, 0, 1};
        int was = 0;
        for (int v : values) {
            due("set " + v, b.set(5, 7, v), was);
            was = v;
        }
        due("is", b.register(5, 7), 1);
    }

    private static void register() {
        at("Promise 16: A REGISTER; NoSuchElementException: others");
        for (int t : NO_THREAD) {
            thrown("register of thread " + t, b -> b.register(t, 0));
        }
        for (int r : NO_REGISTER) {
            thrown("register " + r, b -> b.register(0, r));
        }
        untouched("register", b -> b.register(2, 1), 77);
        untouched("the last of the last", b -> b.register(5, 7), 0);
    }

    private static void cell() {
        at("Promise 17: A CELL; NoSuchElementException: no such THREAD, no MEMORY, outside of it");
        for (int t : NO_THREAD) {
            thrown("cell of thread " + t, b -> b.cell(t, 0));
        }
        int[] no = {-1, 2, 16, MIN, MAX};
        for (int c : no) {
            thrown("cell " + c + " of two", b -> b.cell(0, c));
        }
        thrown("no memory", b -> b.cell(1, 0));
        thrown("no memory, none such", b -> b.cell(1, -1));
        untouched("the last", b -> b.cell(0, 1), 0);
        BarrelSlots b = new BarrelSlots();
        b.memory(5, 16);
        due("the last of 16", b.cell(5, 15), 0);
        refused("behind it", () -> b.cell(5, 16));
        b.memory(5, 0);
        refused("the first of none", () -> b.cell(5, 0));
    }

    private static void codeOf() {
        at("Promise 18: NoSuchElementException: others, none such");
        for (int t : NO_THREAD) {
            thrown("code of thread " + t, b -> b.code(t, 0, 0));
        }
        int[] noPlace = {-1, 5, 24, MIN, MAX};
        for (int place : noPlace) {
            thrown("code at " + place + " of five", b -> b.code(0, place, 0));
        }
        int[] noWhat = {-1, 5, MIN, MAX};
        for (int what : noWhat) {
            thrown("code, what " + what, b -> b.code(0, 0, what));
        }
        at("Promise 18: what 0: which, 1 to 3: x, y, z, 4: how often LOOP has still to go back");
        BarrelSlots b = single();
        b.tell(0, HALT, MIN, MAX, -1);
        b.tell(0, LOOP, 7, 1, MAX);
        int[] want = {HALT, MIN, MAX, -1, 0, LOOP, 7, 1, MAX, 0};
        for (int k = 0; k < want.length; k++) {
            due("code(0, " + k / 5 + ", " + k % 5 + ")", b.code(0, k / 5, k % 5), want[k]);
        }
        at("Promise 18: 4 .. (of others, and as not begun: 0)");
        BarrelSlots c = single();
        code(c, 0, i(SET, 7, 7, 7), i(LOOP, 7, 0));
        int[] left = {0, 6, 6, 5, 5, 4, 4, 3, 3, 2, 2, 1, 1, 0, 0, 0, 0, 6};
        for (int tick = 0; tick < left.length; tick++) {
            c.run(1);
            due("behind tick " + tick, c.code(0, 1, 4), left[tick]);
            due("of SET", c.code(0, 0, 4), 0);
        }
    }

    private static void threadOf() {
        at("Promise 19: -2: others");
        int[] noWhat = {-1, 13, MIN, MAX};
        for (int t : NO_THREAD) {
            for (int what = 0; what <= 12; what++) {
                due("thread(" + t + ", " + what + ")", new BarrelSlots().thread(t, what), -2);
            }
            untouched("thread " + t, b -> b.thread(t, 0), -2);
        }
        for (int what : noWhat) {
            untouched("thread, what " + what, b -> b.thread(0, what), -2);
        }
        at("Promise 19: 2: by what it is TRAPPED (0: it is not)");
        due("trapped", rich().thread(5, 2), 1);
        due("halted", rich().thread(4, 2), 0);
        at("Promise 19: 3: INSTRUCTIONS done (one by which it is TRAPPED counts)");
        due("trapped", rich().thread(5, 3), 1);
        due("waits", rich().thread(1, 3), 1);
        at("Promise 19: 6: the tick till which it WAITS (NONE: it does not)");
        due("waits", rich().thread(1, 6), 50);
        for (int t = 0; t < 6; t++) {
            if (t != 1) {
                due("thread " + t, rich().thread(t, 6), -1);
            }
        }
        BarrelSlots b = rich();
        b.run(30);
        due("in the tick ahead", b.thread(1, 6), 50);
        b.run(1);
        due("behind it", b.thread(1, 6), -1);
        at("Promise 19: 4: TURNS that were GIVEN to it");
        due("of all given, the soft one has them", rich().thread(0, 4), rich().count(3));
        due("its own turns are not among them", rich().thread(0, 3) - rich().thread(0, 4), 3);
    }

    private static void level() {
        at("Promise 20: NONE: others");
        int[] noPin = {-1, 8, MIN, MAX};
        int[] noWhat = {-1, 2, MIN, MAX};
        for (int p : noPin) {
            untouched("level of pin " + p, b -> b.level(p, 0), -1);
            untouched("kind of pin " + p, b -> b.level(p, 1), -1);
        }
        for (int what : noWhat) {
            untouched("level, what " + what, b -> b.level(0, what), -1);
            untouched("level of none, what " + what, b -> b.level(7, what), -1);
        }
        at("Promise 20: what 0: 1, 0 as it is, 1: 0 IN, 1 OUT, 2 none");
        due("in pin", rich().level(4, 0), 1);
        due("in", rich().level(4, 1), 0);
        due("out", rich().level(0, 1), 1);
        due("none", rich().level(7, 1), 2);
        due("none is 0", rich().level(7, 0), 0);
    }

    private static void edge() {
        at("Promise 21: NONE: others, none such");
        int[] no = {-1, 40, MIN, MAX};
        int[] noWhat = {-1, 4, MIN, MAX};
        for (int k : no) {
            untouched("edge " + k, b -> b.edge(k, 0), -1);
        }
        for (int what : noWhat) {
            untouched("edge, what " + what, b -> b.edge(0, what), -1);
        }
        BarrelSlots b = rich();
        int there = b.count(6);
        due("there are some", there > 1, true);
        for (int what = 0; what < 4; what++) {
            due("the first", b.edge(there - 1, what) >= 0, true);
            due("ahead of it", b.edge(there, what), -1);
        }
        due("the latest first", b.edge(0, 0) > b.edge(1, 0), true);
    }

    private static void channel() {
        at("Promise 22: NONE: others");
        int[] no = {-1, 4, MIN, MAX};
        int[] noWhat = {-1, 3, MIN, MAX};
        for (int c : no) {
            for (int what = 0; what <= 2; what++) {
                due("channel(" + c + ", " + what + ")", rich().channel(c, what), -1);
            }
            untouched("channel " + c, b -> b.channel(c, 0), -1);
        }
        for (int what : noWhat) {
            untouched("channel, what " + what, b -> b.channel(1, what), -1);
        }
        at("Promise 22: what 0: how many SEND, 1: how many TAKE there, 2: the first of these that came (NONE: nobody)");
        int[][] want = {{0, 0, -1}, {1, 0, 2}, {0, 1, 3}, {0, 0, -1}};
        BarrelSlots b = rich();
        for (int c = 0; c < 4; c++) {
            for (int what = 0; what <= 2; what++) {
                due("channel(" + c + ", " + what + ")", b.channel(c, what), want[c][what]);
            }
        }
        BarrelSlots six = withTable(5, 4, 3, 2, 1, 0);
        for (int t = 0; t < 6; t++) {
            code(six, t, i(TAKE, 3, 0));
        }
        six.run(6);
        due("all six", six.channel(3, 1), 6);
        due("the first", six.channel(3, 2), 5);
    }

    private static void table() {
        at("Promise 23: The THREAD of a SLOT (NONE: SPARE); -2: none such");
        int[] no = {-1, 7, 16, MIN, MAX};
        for (int s : no) {
            untouched("table " + s, b -> b.table(s), -2);
        }
        untouched("spare", b -> b.table(6), -1);
        untouched("of a thread", b -> b.table(5), 5);
        BarrelSlots b = new BarrelSlots();
        b.slots(16);
        due("the last", b.table(15), -1);
        due("behind it", b.table(16), -2);
    }

    private static void bound() {
        at("Promise 24: NONE: others; of 1 to 4: not PLAIN");
        int[] noWhat = {-1, 6, MIN, MAX};
        for (int t : NO_THREAD) {
            for (int what = 0; what <= 5; what++) {
                due("bound(" + t + ", " + what + ")", rich().bound(t, what), -1);
            }
        }
        for (int what : noWhat) {
            untouched("bound, what " + what, b -> b.bound(0, what), -1);
        }
        for (int what = 0; what <= 5; what++) {
            int k = what;
            untouched("not plain, what " + what, b -> b.bound(0, k), what == 0 || what == 5 ? 0 : -1);
            due("no code, what " + what, single().bound(0, what), what == 0 || what == 5 ? 0 : -1);
        }
        BarrelSlots b = single();
        b.tell(0, SET, 0, 0, 0);
        b.due(0, 1);
        for (int what = 0; what <= 5; what++) {
            due("of one, what " + what, b.bound(0, what), 1);
        }
        for (int what : noWhat) {
            due("of one, what " + what, b.bound(0, what), -1);
        }
        b.slot(0, -1);
        int[] want = {1, 1, 1, -1, -1, 0};
        for (int what = 0; what <= 5; what++) {
            due("no slot, what " + what, b.bound(0, what), want[what]);
        }
    }

    private static void span() {
        at("Promise 25: NONE: others, no SLOT");
        for (int t : NO_THREAD) {
            untouched("span of thread " + t, b -> b.span(t, 1, 0), -1);
        }
        int[] noTurns = {0, -1, 100001, MIN, MAX};
        for (int turns : noTurns) {
            untouched("best of " + turns, b -> b.span(0, turns, 0), -1);
            untouched("worst of " + turns, b -> b.span(0, turns, 1), -1);
        }
        int[] noWhat = {-1, 2, MIN, MAX};
        for (int what : noWhat) {
            untouched("span, what " + what, b -> b.span(0, 1, what), -1);
        }
        untouched("best of 1", b -> b.span(5, 1, 0), 1);
        untouched("worst of 1", b -> b.span(5, 1, 1), 7);
        untouched("best of 100000", b -> b.span(5, 100000, 0), 99999 * 7 + 1);
        untouched("worst of 100000", b -> b.span(5, 100000, 1), 700000);
        BarrelSlots b = rich();
        b.slot(5, 4);
        due("no slot", b.span(5, 1, 0), -1);
        due("no slot", b.span(5, 1, 1), -1);
        due("two slots", b.span(4, 2, 0), 2);
        due("two slots", b.span(4, 1, 1), 6);
    }

    private static void will() {
        at("Promise 26: NONE: others");
        for (int t : NO_THREAD) {
            untouched("will of thread " + t, b -> b.will(t, 1), -1);
        }
        int[] no = {0, -1, 61, MIN, MAX};
        for (int n : no) {
            untouched("will, the " + n + ".", b -> b.will(0, n), -1);
        }
        at("Promise 26: The tick in which a THREAD does its n-th INSTRUCTION (1 to 60) from NOW on");
        for (int t = 0; t < 6; t++) {
            int thread = t;
            untouched("will of " + t, b -> b.will(thread, 1));
            untouched("will, the 0th of " + t, b -> b.will(thread, 0), -1);
        }
        BarrelSlots b = withTable(0);
        code(b, 0, i(SET));
        for (int now = 0; now < 3; now++) {
            for (int n = 1; n <= 60; n++) {
                due("the " + n + ". in " + now, b.will(0, n), now + n - 1);
            }
            due("a 61st", b.will(0, 61), -1);
            b.run(1);
        }
        BarrelSlots trap = single();
        code(trap, 0, i(SET), i(LOAD, 0, 0));
        due("one by which it is trapped", trap.will(0, 2), 1);
        due("none behind it", trap.will(0, 3), -1);
        trap.run(2);
        due("trapped", trap.will(0, 1), -1);
    }

    private static void willWithin300() {
        at("Promise 26: NONE: not within 300 ticks");
        for (int now = 0; now <= 7; now += 7) {
            for (int tick = 298; tick <= 301; tick++) {
                BarrelSlots b = single();
                code(b, 0, i(SET), i(SET), i(SET), i(SET), i(SET), i(SET), i(WAIT, 1), i(HALT));
                b.set(0, 1, now + tick);
                b.run(7);
                if (now == 0) {
                    b.start();
                    b.set(0, 1, tick);
                }
                due("in " + now + " of tick " + (now + tick), b.will(0, now == 0 ? 8 : 1), tick <= 299 ? now + tick : -1);
                due("alone", b.alone(0, now == 0 ? 8 : 1), tick <= 299 ? now + tick : -1);
            }
        }
        BarrelSlots b = withTable(-1, -1, -1, -1, 5);
        code(b, 5, i(SET));
        due("the 60th in tick 299", b.will(5, 60), 299);
        b.slots(6);
        due("the 50th in tick 298", b.will(5, 50), 298);
        due("the 51st in tick 304", b.will(5, 51), -1);
    }

    private static void alone() {
        at("Promise 27: The same: NONE: others");
        for (int t : NO_THREAD) {
            untouched("alone of thread " + t, b -> b.alone(t, 1), -1);
        }
        int[] no = {0, -1, 61, MIN, MAX};
        for (int n : no) {
            untouched("alone, the " + n + ".", b -> b.alone(0, n), -1);
        }
        for (int t = 0; t < 6; t++) {
            int thread = t;
            untouched("alone of " + t, b -> b.alone(thread, 1));
            untouched("alone, the 0th of " + t, b -> b.alone(thread, 0), -1);
        }
        for (int t : NO_THREAD) {
            due("lost turns are nobody's, will of " + t, new BarrelSlots().will(t, 1), -1);
            due("lost turns are nobody's, alone of " + t, new BarrelSlots().alone(t, 1), -1);
        }
        BarrelSlots b = withTable(0, 1);
        b.hard(0, false);
        code(b, 0, i(SET));
        code(b, 1, i(SET));
        due("the 60th with another", b.will(0, 60), 118);
        due("the 60th alone", b.alone(0, 60), 59);
        due("of no code", b.alone(2, 1), -1);
    }

    private static void aloneAsWiped() {
        at("Promise 27: if all others were wiped ahead, as by wipe()");
        BarrelSlots b = withTable(0, 1);
        b.pin(0, true);
        code(b, 0, i(OUTAT, 0, 0, 1), i(HALT));
        code(b, 1, i(OUTAT, 0, 0, 1), i(HALT));
        b.set(0, 1, 10);
        b.set(1, 1, 20);
        b.run(1);
        due("trapped by the other's claim", b.will(1, 2), -1);
        due("no claim when wiped", b.alone(1, 2), 21);
        due("the claim stays", b.thread(0, 6), 10);
        BarrelSlots c = withTable(0, 1);
        code(c, 0, i(SEND, 0, 0), i(SET));
        code(c, 1, i(TAKE, 0, 0), i(HALT));
        c.run(1);
        due("takes from who sends", c.will(1, 2), 3);
        due("nobody sends when wiped", c.alone(1, 2), -1);
        due("the first of these stays", c.channel(0, 2), 0);
        BarrelSlots d = withTable(0, 1);
        code(d, 0, i(SEND, 0, 0), i(HALT));
        code(d, 1, i(TAKE, 0, 0), i(HALT));
        d.run(1);
        due("taken from", d.will(0, 1), 2);
        due("it sends on when the others are wiped", d.alone(0, 1), -1);
    }

    private static void ahead() {
        at("Promise 28: NoSuchElementException: others");
        for (int t : NO_THREAD) {
            thrown("ahead of thread " + t, b -> b.ahead(t, 0, 1));
        }
        for (int r : NO_REGISTER) {
            thrown("ahead of register " + r, b -> b.ahead(0, r, 1));
        }
        int[] no = {0, -1, 301, MIN, MAX};
        for (int ticks : no) {
            thrown("ahead by " + ticks, b -> b.ahead(0, 0, ticks));
        }
        untouched("ahead by 1", b -> b.ahead(0, 1, 1));
        untouched("ahead by 300", b -> b.ahead(0, 1, 300));
        at("Promise 28: What a REGISTER will be behind so many ticks (1 to 300)");
        BarrelSlots b = single();
        code(b, 0, i(ADD, 7, 7, 6));
        b.set(0, 6, 1);
        b.run(3);
        due("by 1", b.ahead(0, 7, 1), 4);
        due("by 299", b.ahead(0, 7, 299), 302);
        due("by 300", b.ahead(0, 7, 300), 303);
        due("of no code", b.ahead(5, 7, 300), 0);
        b.run(200);
        b.run(100);
        due("so it is", b.register(0, 7), 303);
    }

    private static void share() {
        at("Promise 29: NONE: none such, NOW is 0");
        for (int t : NO_THREAD) {
            untouched("share of thread " + t, b -> b.share(t), -1);
        }
        BarrelSlots b = withTable(0, 1, 1);
        code(b, 0, i(SET));
        code(b, 1, i(SET));
        due("in 0", b.share(0), -1);
        due("in 0, none such", b.share(6), -1);
        b.run(1);
        due("1 of 1", b.share(0), 0x3f800000);
        due("0 of 1", b.share(1), 0);
        b.run(1);
        due("1 of 2", b.share(0), 0x3f000000);
        b.run(1);
        due("1 of 3", b.share(0), 0x3eaaaaab);
        due("2 of 3", b.share(1), 0x3f2aaaab);
        due("0 of 3", b.share(5), 0);
        b.wipe(0);
        due("what was done stays", b.share(0), 0x3eaaaaab);
        b.start();
        due("in 0 again", b.share(1), -1);
        BarrelSlots far = single();
        code(far, 0, i(SET), i(HALT));
        for (int k = 0; k < 500; k++) {
            far.run(200);
        }
        due("2 of 100000", far.share(0), 0x37a7c5ac);
    }

    private static void count() {
        at("Promise 30: NONE for another what");
        int[] no = {-1, 13, MIN, MAX};
        for (int what : no) {
            untouched("count " + what, b -> b.count(what), -1);
        }
        at("Promise 30: 6: EDGES there are");
        BarrelSlots b = single();
        b.pin(0, true);
        code(b, 0, i(OUT, 0, 0), i(ADD, 0, 0, 1));
        b.set(0, 0, 1);
        b.set(0, 1, 1);
        for (int edges = 1; edges <= 45; edges++) {
            b.run(edges == 1 ? 1 : 2);
            due("edges", b.count(6), Math.min(edges, 40));
        }
        at("Promise 30: 9: the THREAD to which a TURN was GIVEN last (NONE: none)");
        due("none", b.count(9), -1);
        due("0", rich().count(9), 0);
        at("Promise 30: 10: THREADS that are TRAPPED, as bits");
        BarrelSlots all = withTable(5, 4, 3, 2, 1, 0);
        for (int t = 0; t < 6; t++) {
            code(all, t, i(LOAD, 0, 0));
        }
        int bits = 0;
        due("none", all.count(10), 0);
        for (int t = 5; t >= 0; t--) {
            all.run(1);
            bits |= 1 << t;
            due("down to " + t, all.count(10), bits);
        }
        all.wipe(5);
        due("not the wiped one", all.count(10), 31);
        at("Promise 30: 12: what had passed through CHANNELS");
        BarrelSlots c = withTable(0, 1);
        code(c, 0, i(SEND, 3, 0));
        code(c, 1, i(TAKE, 3, 0));
        c.run(1);
        due("not yet", c.count(12), 0);
        c.run(199);
        due("one in two ticks", c.count(12), 100);
    }
}
