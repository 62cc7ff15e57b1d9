/** Each promise of the document by hand: ordinary inputs, the edges that are named, wrong inputs. */
public final class PromiseTests extends Check {
    public static void main(String[] args) {
        newObject();
        tell();
        wipe();
        memory();
        hard();
        pin();
        event();
        slots();
        slot();
        dueTicks();
        asks();
        found();
        start();
        run();
        computing();
        ratioAndPart();
        ways();
        givenTurns();
        pins();
        channels();
        traps();
        set();
        register();
        cell();
        codeOf();
        threadOf();
        level();
        edge();
        channelOf();
        table();
        plain();
        bound();
        span();
        will();
        alone();
        ahead();
        share();
        count();
        end("all promises hold");
    }

    private static void newObject() {
        at("promise 1");
        BarrelSlots b = new BarrelSlots();
        int[] first = {0, 0, 0, 0, 0, 0, -1, 0, 0, 1, -1, 0, 0};
        for (int t = 0; t < 6; t++) {
            for (int what = 0; what < first.length; what++) {
                due("thread(" + t + ", " + what + ")", b.thread(t, what), first[what]);
            }
            for (int r = 0; r < 8; r++) {
                due("register", b.register(t, r), 0);
            }
            due("bound 0", b.bound(t, 0), 0);
        }
        for (int p = 0; p < 8; p++) {
            due("level", b.level(p, 0), 0);
            due("kind", b.level(p, 1), 2);
        }
        int[] counts = {0, 1, 1, 0, 0, 0, 0, 0, 0, -1, 0, 0, 0};
        for (int what = 0; what < counts.length; what++) {
            due("count(" + what + ")", b.count(what), counts[what]);
        }
        due("table", b.table(0), -1);
    }

    private static void tell() {
        at("promise 2");
        // the greatest x, y, z that each kind takes, -1 where any will do; LOOP's y is its own place
        int[][] greatest = {
            {7, -1, -1}, {7, 7, 7}, {7, 7, 7}, {7, 7, 7}, {7, 7, 7}, {7, 7, -1}, {7, 7, -1}, {-1, 23, -1}, {7, 23, -1},
            {7, 0, -1}, {7, 7, -1}, {7, 7, 7}, {7, 7, -1}, {7, 7, 7}, {7, -1, -1}, {7, -1, -1}, {3, 7, -1}, {3, 7, -1},
            {-1, -1, -1}, {7, 7, 7}, {7, 7, 7},
        };
        for (int kind = 0; kind < greatest.length; kind++) {
            for (int part = 0; part < 3; part++) {
                int g = greatest[kind][part];
                int[] tries = {g, g + 1, -1, Integer.MAX_VALUE, Integer.MIN_VALUE};
                for (int tried : tries) {
                    int[] xyz = {0, 0, 0};
                    xyz[part] = tried;
                    boolean fits = g < 0 || (tried >= 0 && tried <= g);
                    due("tell kind " + kind + " part " + part + " of " + tried,
                        new BarrelSlots().tell(5, kind, xyz[0], xyz[1], xyz[2]), fits ? 0 : -1);
                }
            }
        }
        BarrelSlots b = new BarrelSlots();
        due("kind 21", b.tell(0, 21, 0, 0, 0), -1);
        due("kind -1", b.tell(0, -1, 0, 0, 0), -1);
        due("thread 6", b.tell(6, 0, 0, 0, 0), -1);
        due("thread -1", b.tell(-1, 0, 0, 0, 0), -1);
        for (int place = 0; place < 24; place++) {
            due("loop beyond itself", b.tell(0, LOOP, 1, place + 1, 0), -1);
            due("loop to itself", b.tell(0, LOOP, 1, place, 0), place);
        }
        due("a 25th", b.tell(0, SET, 0, 0, 0), -1);
        due("how many", b.thread(0, 8), 24);
        due("of another", b.tell(1, SET, 0, 0, 0), 0);
    }

    private static void wipe() {
        at("promise 3");
        BarrelSlots b = single();
        due("none such", b.wipe(6), -1);
        due("none such", b.wipe(-1), -1);
        due("empty", b.wipe(0), 0);
        b.pin(0, true);
        code(b, 0, i(SET, 1, 5), i(SET, 2, 1), i(OUTAT, 0, 2, 1), i(HALT));
        b.run(3);
        due("waits", b.thread(0, 0), 1);
        due("had", b.wipe(0), 4);
        due("ready", b.thread(0, 0), 0);
        due("place", b.thread(0, 1), 0);
        due("till", b.thread(0, 6), -1);
        due("code", b.thread(0, 8), 0);
        due("register stays", b.register(0, 1), 5);
        due("done stays", b.thread(0, 3), 3);
        b.run(5);
        due("what it waited for is not done", b.level(0, 0), 0);
        code(b, 0, i(TAKE, 1, 1));
        b.run(1);
        due("takes", b.channel(1, 1), 1);
        due("round", b.thread(0, 5), 1);
        b.wipe(0);
        due("at no channel", b.channel(1, 1), 0);
        due("nobody first", b.channel(1, 2), -1);
        code(b, 0, i(LOAD, 0, 0));
        b.run(1);
        due("trapped", b.thread(0, 2), 1);
        b.wipe(0);
        due("no more trapped", b.thread(0, 2), 0);
        due("bits", b.count(10), 0);
        code(b, 0, i(LOOP, 5, 0), i(HALT));
        b.run(2);
        due("back", b.code(0, 0, 4), 3);
        b.wipe(0);
        code(b, 0, i(LOOP, 5, 0), i(HALT));
        due("as not begun", b.code(0, 0, 4), 0);
        b.run(1);
        due("five in all", b.code(0, 0, 4), 4);
    }

    private static void memory() {
        at("promise 4");
        BarrelSlots b = single();
        due("no thread", b.memory(6, 1), -2);
        due("no thread", b.memory(-1, -1), -2);
        due("above 16", b.memory(0, 17), -2);
        due("first", b.memory(0, 16), -1);
        due("cells", b.thread(0, 10), 16);
        code(b, 0, i(SET, 1, 15), i(STORE, 1, 1), i(HALT));
        b.run(3);
        due("stored", b.cell(0, 15), 15);
        due("again", b.memory(0, 16), 16);
        due("all 0", b.cell(0, 15), 0);
        due("of none", b.memory(0, 0), 16);
        due("cells", b.thread(0, 10), 0);
        due("taken away", b.memory(0, Integer.MIN_VALUE), 0);
        due("cells", b.thread(0, 10), -1);
        due("there was none", b.memory(0, -1), -1);
        due("refused changes nothing", b.memory(0, Integer.MAX_VALUE), -2);
        due("of another", b.thread(1, 10), -1);
    }

    private static void hard() {
        at("promise 5");
        BarrelSlots b = new BarrelSlots();
        due("already", b.hard(0, true), false);
        due("soft", b.hard(0, false), true);
        due("is", b.thread(0, 9), 0);
        due("already", b.hard(0, false), false);
        due("hard", b.hard(0, true), true);
        due("is", b.thread(0, 9), 1);
        due("others", b.hard(6, false), false);
        due("others", b.hard(-1, false), false);
        due("of another", b.thread(1, 9), 1);
    }

    private static void pin() {
        at("promise 6");
        BarrelSlots b = new BarrelSlots();
        due("others", b.pin(8, true), false);
        due("others", b.pin(-1, true), false);
        due("in", b.pin(3, false), true);
        due("already", b.pin(3, false), false);
        due("already, the other", b.pin(3, true), false);
        due("bank is in", b.pin(0, true), false);
        due("not told by that", b.level(0, 1), 2);
        due("in too", b.pin(0, false), true);
        due("other bank", b.pin(4, true), true);
        due("bank is out", b.pin(7, false), false);
        due("out too", b.pin(7, true), true);
    }

    private static void event() {
        at("promise 7");
        BarrelSlots b = new BarrelSlots();
        due("no pin", b.event(0, 1, true), -1);
        b.pin(0, true);
        b.pin(4, false);
        due("out pin", b.event(0, 1, true), -1);
        due("no such pin", b.event(8, 1, true), -1);
        due("no such pin", b.event(-1, 1, true), -1);
        b.run(2);
        due("before", b.event(4, 1, true), -1);
        due("now", b.event(4, 2, true), 1);
        due("above", b.event(4, 100000, true), -1);
        due("latest", b.event(4, 99999, true), 2);
        due("of one tick", b.event(4, 3, true), 3);
        due("of one tick", b.event(4, 3, false), 4);
        due("not yet", b.level(4, 0), 0);
        b.run(1);
        due("so now", b.level(4, 0), 1);
        b.run(1);
        due("the later told is last", b.level(4, 0), 0);
        due("no edge", b.count(6), 0);
        for (int n = 5; n <= 32; n++) {
            due("n-th", b.event(4, 4, true), n);
        }
        due("a 33rd", b.event(4, 4, true), -1);
        due("how many", b.count(7), 32);
        b.start();
        due("stay", b.count(7), 32);
        b.run(3);
        due("happens again", b.level(4, 0), 1);
    }

    private static void slots() {
        at("promise 8");
        BarrelSlots b = new BarrelSlots();
        due("0", b.slots(0), -1);
        due("17", b.slots(17), -1);
        due("-1", b.slots(-1), -1);
        b.slot(0, 3);
        due("16", b.slots(16), 1);
        due("first stays", b.table(0), 3);
        due("new ones spare", b.count(2), 15);
        b.slot(15, 4);
        b.slot(1, 2);
        due("2", b.slots(2), 16);
        due("16 again", b.slots(16), 2);
        due("spare again", b.table(15), -1);
        due("stays", b.table(1), 2);
        due("same", b.slots(16), 16);
    }

    private static void slot() {
        at("promise 9");
        BarrelSlots b = new BarrelSlots();
        due("of 5", b.slot(0, 5), true);
        due("again", b.slot(0, 5), true);
        due("spare", b.slot(0, -1), true);
        due("is", b.table(0), -1);
        due("others", b.slot(1, 0), false);
        due("others", b.slot(-1, 0), false);
        due("others", b.slot(0, 6), false);
        due("others", b.slot(0, -2), false);
    }

    private static void dueTicks() {
        at("promise 10");
        BarrelSlots b = new BarrelSlots();
        due("first", b.due(0, 9999), 0);
        due("above", b.due(0, 10000), -1);
        due("below", b.due(0, -1), -1);
        due("none", b.due(0, 0), 9999);
        due("is", b.thread(0, 11), 0);
        due("1", b.due(0, 1), 0);
        due("is", b.thread(0, 11), 1);
        due("others", b.due(6, 1), -1);
        due("others", b.due(-1, 1), -1);
    }

    private static void asks() {
        at("promise 11");
        BarrelSlots b = new BarrelSlots();
        due("first", b.asks(5, 16), 0);
        due("above", b.asks(5, 17), -1);
        due("below", b.asks(5, -1), -1);
        due("none", b.asks(5, 0), 16);
        due("is", b.thread(5, 12), 0);
        due("1", b.asks(5, 1), 0);
        due("others", b.asks(6, 1), -1);
        due("others", b.asks(-1, 1), -1);
    }

    private static void found() {
        at("promise 12");
        BarrelSlots b = new BarrelSlots();
        b.slots(5);
        b.slot(0, 2);
        due("without any", b.found(), 0);
        isTable(b, -1);
        b.asks(3, 1);
        due("one of gap 1", b.found(), 0);
        isTable(b, 3);
        b.asks(4, 16);
        due("above 1", b.found(), 1);
        isTable(b, 3);
        b.asks(3, 2);
        b.asks(4, 2);
        due("exactly 1", b.found(), 0);
        // limits less t: (2,2) 3 | (2,1) 4 | (1,2) 3 | (2,1) again, 2 ago
        isTable(b, 4, 3);
        b.asks(5, 16);
        due("just above 1", b.found(), 1);
        b.asks(5, 0);
        b.asks(4, 3);
        b.asks(5, 6);
        // (2,3,6) 3 | (2,2,5) 3 | (2,1,4) 4 | (1,3,3) 3 | (2,2,2) 3 | (2,1,1) 4 | (1,3,0) missed
        due("missed", b.found(), 2);
        isTable(b, 4, 3);
        b.asks(3, 3);
        b.asks(5, 16);
        // the one of 16 comes each 17 slots or so: the least period is above 16
        due("no period", b.found(), 3);
        isTable(b, 4, 3);
        b.asks(3, 2);
        b.asks(5, 0);
        b.asks(4, 0);
        due("one of gap 2", b.found(), 0);
        isTable(b, 3);
    }

    private static void start() {
        at("promise 13");
        BarrelSlots b = single();
        b.pin(0, true);
        b.pin(4, false);
        b.event(4, 1, true);
        b.memory(0, 2);
        b.hard(2, false);
        b.due(0, 7);
        b.asks(0, 3);
        code(b, 0, i(SET, 1, 1), i(STORE, 1, 1), i(OUT, 0, 1), i(LOOP, 3, 3), i(TAKE, 0, 1));
        code(b, 2, i(CLOCK, 3), i(LOAD, 0, 0));
        code(b, 3, i(HALT));
        b.set(0, 7, 9);
        b.run(12);
        due("it took", b.thread(0, 0), 3);
        due("it trapped", b.thread(2, 0), 5);
        due("now as it was", b.start(), 12);
        int[] want = {0, 0, 0, 0, 0, 0, -1, 0, 5, 1, 2, 7, 3};
        for (int what = 0; what < want.length; what++) {
            due("thread(0, " + what + ")", b.thread(0, what), want[what]);
        }
        due("trapped", b.thread(2, 2), 0);
        due("soft stays", b.thread(2, 9), 0);
        due("given", b.thread(2, 4), 0);
        due("registers", b.register(0, 7) + b.register(0, 1) + b.register(2, 3), 0);
        due("cells", b.cell(0, 1), 0);
        due("pins", b.level(0, 0) + b.level(4, 0), 0);
        due("kinds", b.level(0, 1), 1);
        due("loops", b.code(0, 3, 4), 0);
        due("channels", b.channel(0, 1), 0);
        int[] counts = {0, 1, 0, 0, 0, 0, 0, 1, 0, -1, 0, 0, 0};
        for (int what = 0; what < counts.length; what++) {
            due("count(" + what + ")", b.count(what), counts[what]);
        }
        due("edges", b.edge(0, 0), -1);
        due("table", b.table(0), 0);
        b.run(12);
        due("one alone is at the channel again", b.channel(0, 1), 1);
        b.start();
        due("twice", b.start(), 0);
    }

    private static void run() {
        at("promise 14");
        BarrelSlots b = single();
        due("0", b.run(0), -1);
        due("201", b.run(201), -1);
        due("-1", b.run(-1), -1);
        due("nobody", b.run(1), 0);
        code(b, 0, i(CLOCK, 0));
        due("200", b.run(200), 200);
        due("now", b.count(0), 201);
        due("each tick", b.register(0, 0), 200);
        due("rounds", b.thread(0, 5), 200);
        b.slots(3);
        b.slot(2, 0);
        // ticks 201, 202, 203 are slots 0, 1, 2
        due("by slots", b.run(3), 2);
        due("last", b.register(0, 0), 203);
    }

    private static void computing() {
        at("promise 14");
        BarrelSlots b = single();
        b.memory(0, 3);
        code(b, 0, i(SET, 1, -7), i(SET, 2, 3), i(ADD, 3, 1, 2), i(SUB, 4, 1, 2), i(MUL, 5, 1, 2), i(LESS, 6, 1, 2),
            i(LESS, 7, 2, 2), i(SET, 0, 2), i(STORE, 5, 0), i(LOAD, 1, 0), i(CLOCK, 2), i(HALT));
        b.set(0, 7, 5);
        due("done", b.run(20), 12);
        int[] want = {2, -21, 10, -4, -10, -21, 1, 0};
        for (int r = 0; r < 8; r++) {
            due("register " + r, b.register(0, r), want[r]);
        }
        due("cell", b.cell(0, 2), -21);
        due("halted", b.thread(0, 0), 4);
        due("lost", b.count(4), 8);
        BarrelSlots w = single();
        code(w, 0, i(SET, 1, Integer.MAX_VALUE), i(ADD, 2, 1, 1), i(MUL, 3, 1, 1), i(SET, 4, Integer.MIN_VALUE),
            i(SUB, 5, 4, 1), i(LESS, 6, 4, 1), i(HALT));
        w.run(7);
        due("wraps", w.register(0, 2), -2);
        due("wraps", w.register(0, 3), 1);
        due("wraps", w.register(0, 5), 1);
        due("less", w.register(0, 6), 1);
    }

    private static void ratioAndPart() {
        at("promise 14");
        int[] values = {0, 1, -1, 2, 3, -3, 7, 10, 1023, 1024, -1025, 16777215, 16777216, 16777217, 33554433, 123456789,
            -987654321, Integer.MAX_VALUE, Integer.MIN_VALUE, Integer.MIN_VALUE + 1, 2147483583, 2147483584};
        for (int y : values) {
            BarrelSlots b = single();
            code(b, 0, i(RATIO, 2, 0, 1), i(PART, 3, 0, 1));
            for (int z : values) {
                b.set(0, 0, y);
                b.set(0, 1, z);
                b.run(2);
                due("ratio " + y + " " + z, b.register(0, 2), Float.floatToIntBits((float) y / (float) z));
                due("part " + y + " " + z, b.register(0, 3), (int) ((float) y * (float) z / 1024f));
            }
        }
    }

    private static void ways() {
        at("promise 14");
        BarrelSlots b = single();
        code(b, 0, i(BRANCH, 1, 2), i(JUMP, 0, 23), i(JUMP, 0, 0));
        b.run(1);
        due("not branched", b.thread(0, 1), 1);
        b.run(1);
        due("behind the last", b.thread(0, 1), 0);
        due("a round", b.thread(0, 5), 1);
        b.set(0, 1, -5);
        b.run(1);
        due("branched", b.thread(0, 1), 2);
        b.run(1);
        due("back to 0", b.thread(0, 1), 0);
        due("no round", b.thread(0, 5), 1);
        BarrelSlots c = single();
        code(c, 0, i(BRANCH, 1, 1));
        c.set(0, 1, 1);
        c.run(1);
        due("a round by branch", c.thread(0, 5), 1);
        BarrelSlots l = single();
        code(l, 0, i(ADD, 0, 0, 1), i(LOOP, 2, 0), i(LOOP, 0, 0), i(LOOP, 1, 3));
        l.set(0, 1, 1);
        // 0 1 | 0 1 | 0 1, then 2, then 3 3
        int[] places = {1, 0, 1, 0, 1, 2, 3, 3, 0, 1, 0};
        int[] left = {0, 1, 1, 0, 0, 0, 0, 0, 0, 0, 1};
        for (int t = 0; t < places.length; t++) {
            l.run(1);
            due("place behind " + t, l.thread(0, 1), places[t]);
            due("still back behind " + t, l.code(0, 1, 4), left[t]);
        }
        due("three times and one", l.register(0, 0), 4);
        due("rounds", l.thread(0, 5), 1);
        BarrelSlots h = single();
        code(h, 0, i(HALT), i(SET, 0, 1));
        h.run(3);
        due("place behind halt", h.thread(0, 1), 1);
        due("done", h.thread(0, 3), 1);
    }

    private static void givenTurns() {
        at("promise 14");
        BarrelSlots b = new BarrelSlots();
        b.slots(2);
        b.slot(0, 3);
        for (int t = 0; t < 6; t++) {
            code(b, t, i(CLOCK, 0));
        }
        due("only its own", b.run(4), 2);
        due("lost", b.count(4), 2);
        b.hard(1, false);
        b.hard(4, false);
        b.hard(3, false);
        b.run(2);
        due("first from 0 on", b.count(9), 1);
        b.run(2);
        due("behind that", b.count(9), 3);
        b.run(2);
        due("behind that", b.count(9), 4);
        b.run(2);
        due("round again", b.count(9), 1);
        due("given", b.count(3), 4);
        due("given to 1", b.thread(1, 4), 2);
        due("given to 3", b.thread(3, 4), 1);
        due("done by 3", b.thread(3, 3), 7);
        b.wipe(3);
        b.run(1);
        due("own one has no code", b.count(9), 4);
        due("lost stays", b.count(4), 2);
        b.hard(5, false);
        b.run(1);
        due("5", b.count(9), 5);
        b.run(1);
        due("behind 5 comes 0", b.count(9), 1);
        b.wipe(1);
        b.wipe(4);
        b.wipe(5);
        b.run(3);
        due("nobody soft", b.count(4), 5);
        due("last one stays", b.count(9), 1);
    }

    private static void pins() {
        at("promise 14");
        BarrelSlots b = new BarrelSlots();
        b.slots(2);
        b.slot(0, 0);
        b.slot(1, 1);
        b.pin(0, true);
        b.pin(1, true);
        b.pin(5, false);
        b.event(5, 6, true);
        b.set(0, 1, 3);
        b.set(0, 2, 6);
        b.set(1, 2, 6);
        b.set(1, 1, -1);
        // 0 writes pin 0 at 6, told in tick 0; 1 reads pin 5 at 6, told in tick 1
        code(b, 0, i(OUTAT, 0, 1, 2), i(SET, 1, 4), i(OUT, 0, 1), i(OUT, 0, 1), i(OUTAT, 1, 2, 3), i(HALT));
        code(b, 1, i(INAT, 5, 1, 2), i(CLOCK, 3), i(OUTAT, 1, 1, 3), i(INAT, 5, 4, 2), i(WAIT, 2), i(HALT));
        b.run(2);
        due("both wait", b.thread(0, 0) + b.thread(1, 0), 2);
        due("till", b.thread(1, 6), 6);
        due("place behind", b.thread(1, 1), 1);
        b.set(0, 1, 0);
        b.run(4);
        due("pin 0 yet", b.level(0, 0), 0);
        due("lost", b.count(4), 4);
        b.run(1);
        due("as Ry was in its turn", b.level(0, 0), 1);
        due("read in 6", b.register(1, 1), 1);
        due("turn in the same tick", b.register(0, 1), 4);
        due("edge tick", b.edge(0, 0), 6);
        b.run(1);
        due("now", b.register(1, 3), 7);
        b.run(1);
        due("even writes 0", b.level(0, 0), 0);
        due("two edges", b.count(6), 2);
        b.run(1);
        due("outat to 7 in 9 is late", b.thread(1, 7), 1);
        due("late edge", b.edge(0, 3), 1);
        due("its tick", b.edge(0, 0), 9);
        due("its pin", b.edge(0, 1), 1);
        b.run(1);
        due("no edge when the same", b.count(6), 3);
        b.run(1);
        due("inat late", b.thread(1, 7), 2);
        due("read at once", b.register(1, 4), 1);
        b.run(1);
        due("late with 6, even", b.level(1, 0), 0);
        due("late of 0", b.thread(0, 7), 1);
        b.run(1);
        due("wait is never late", b.thread(1, 7), 2);
        due("ready behind wait", b.thread(1, 0), 0);
        due("all late", b.count(8), 3);
        BarrelSlots w = single();
        code(w, 0, i(WAIT, 1), i(CLOCK, 2), i(HALT));
        w.set(0, 1, 3);
        w.run(3);
        due("waits", w.thread(0, 0), 1);
        w.run(1);
        due("its tick is its turn", w.register(0, 2), 3);
        BarrelSlots n = single();
        n.pin(0, true);
        code(n, 0, i(OUTAT, 0, 1, 2), i(OUTAT, 0, 2, 1), i(HALT));
        n.set(0, 1, 1);
        n.run(1);
        due("at its very tick, at once, not late", n.thread(0, 7), 0);
        due("written", n.level(0, 0), 1);
        due("ready", n.thread(0, 0), 0);
        n.run(1);
        due("1 in tick 1 is not late", n.thread(0, 7), 0);
        due("written", n.level(0, 0), 0);
        BarrelSlots in = single();
        in.pin(0, false);
        in.event(0, 0, true);
        code(in, 0, i(IN, 0, 3));
        in.run(1);
        due("in", in.register(0, 3), 1);
    }

    private static void channels() {
        at("promise 14");
        BarrelSlots b = new BarrelSlots();
        b.slots(6);
        for (int s = 0; s < 6; s++) {
            b.slot(s, 5 - s);
            b.set(s, 1, 10 + s);
        }
        // ticks 0 to 5: threads 5, 4, 3 send, 2 takes, 1 takes, 0 takes
        for (int t = 3; t < 6; t++) {
            code(b, t, i(SEND, 3, 1), i(HALT));
        }
        for (int t = 0; t < 3; t++) {
            code(b, t, i(TAKE, 3, 2), i(HALT));
        }
        b.run(2);
        due("sends", b.thread(5, 0), 2);
        due("place", b.thread(5, 1), 1);
        b.set(5, 1, 99);
        b.run(1);
        due("three send", b.channel(3, 0), 3);
        due("nobody takes", b.channel(3, 1), 0);
        due("first", b.channel(3, 2), 5);
        b.wipe(4);
        due("two send", b.channel(3, 0), 2);
        b.run(1);
        due("from the first, as it was", b.register(2, 2), 15);
        due("sender ready", b.thread(5, 0), 0);
        due("taker ready", b.thread(2, 0), 0);
        due("passed", b.count(12), 1);
        b.run(2);
        due("the next", b.register(1, 2), 13);
        due("takes", b.thread(0, 0), 3);
        due("one takes", b.channel(3, 1), 1);
        due("nobody sends", b.channel(3, 0), 0);
        due("first that takes", b.channel(3, 2), 0);
        due("other channel", b.channel(2, 1), 0);
        code(b, 4, i(SEND, 3, 1), i(HALT));
        b.run(2);
        due("given to the one that waits", b.register(0, 2), 14);
        due("both ready", b.thread(0, 0) + b.thread(4, 0), 0);
        due("passed", b.count(12), 3);
        due("nobody", b.channel(3, 2), -1);
    }

    private static BarrelSlots trapped(int pinOut, int cells, int kind, int x, int y) {
        BarrelSlots b = single();
        if (pinOut >= 0) {
            b.pin(0, pinOut == 1);
        }
        b.memory(0, cells);
        code(b, 0, i(SET, 7, 1), i(kind, x, y));
        b.set(0, 1, cells);
        b.set(0, 2, -1);
        due("two done", b.run(3), 2);
        return b;
    }

    private static void traps() {
        at("promise 14");
        int[][] tries = {
            {-1, -1, LOAD, 0, 0, 1}, {-1, -1, STORE, 0, 0, 1}, {-1, -1, LOAD, 0, 2, 1}, {-1, 0, LOAD, 0, 0, 2},
            {-1, 4, STORE, 0, 1, 2}, {-1, 4, LOAD, 0, 1, 2}, {-1, 4, LOAD, 0, 2, 2}, {-1, 4, STORE, 0, 2, 2},
            {-1, 1, OUT, 0, 0, 3}, {-1, 1, OUTAT, 0, 0, 3}, {-1, 1, IN, 0, 0, 3}, {-1, 1, INAT, 0, 0, 3},
            {0, 1, OUT, 0, 0, 3}, {0, 1, OUTAT, 0, 0, 3}, {1, 1, IN, 0, 0, 3}, {1, 1, INAT, 0, 0, 3},
            {1, 1, OUT, 1, 0, 3}, {0, 1, IN, 1, 0, 3},
        };
        for (int[] t : tries) {
            BarrelSlots b = trapped(t[0], t[1], t[2], t[3], t[4]);
            due("state of kind " + t[2], b.thread(0, 0), 5);
            due("trap of kind " + t[2], b.thread(0, 2), t[5]);
            due("place", b.thread(0, 1), 1);
            due("late", b.thread(0, 7), 0);
            due("rounds", b.thread(0, 5), 0);
        }
        BarrelSlots b = new BarrelSlots();
        b.slots(3);
        b.slot(0, 0);
        b.slot(1, 1);
        b.slot(2, 2);
        b.pin(0, true);
        b.set(0, 1, 9);
        code(b, 0, i(OUTAT, 0, 1, 1), i(HALT));
        code(b, 1, i(OUT, 0, 2), i(OUTAT, 0, 1, 1));
        code(b, 2, i(WAIT, 3), i(OUTAT, 0, 3, 3), i(HALT));
        b.set(2, 3, 11);
        b.run(5);
        due("out is free, outat is not", b.thread(1, 2), 4);
        due("at its place", b.thread(1, 1), 1);
        due("bits", b.count(10), 2);
        b.run(7);
        due("behind the write it is free", b.thread(2, 2), 0);
        b.run(6);
        due("halted", b.thread(2, 0), 4);
    }

    private static void set() {
        at("promise 15");
        BarrelSlots b = new BarrelSlots();
        due("was", b.set(5, 7, -3), 0);
        due("was", b.set(5, 7, 4), -3);
        due("of another", b.register(4, 7), 0);
        refused("thread 6", () -> b.set(6, 0, 1));
        refused("thread -1", () -> b.set(-1, 0, 1));
        refused("register 8", () -> b.set(0, 8, 1));
        refused("register -1", () -> b.set(0, -1, 1));
    }

    private static void register() {
        at("promise 16");
        BarrelSlots b = new BarrelSlots();
        b.set(0, 3, 8);
        due("is", b.register(0, 3), 8);
        refused("thread 6", () -> b.register(6, 0));
        refused("thread -1", () -> b.register(-1, 0));
        refused("register 8", () -> b.register(0, 8));
        refused("register -1", () -> b.register(0, -1));
    }

    private static void cell() {
        at("promise 17");
        BarrelSlots b = new BarrelSlots();
        refused("no memory", () -> b.cell(0, 0));
        b.memory(0, 2);
        due("is", b.cell(0, 1), 0);
        refused("outside", () -> b.cell(0, 2));
        refused("outside", () -> b.cell(0, -1));
        refused("thread 6", () -> b.cell(6, 0));
        refused("thread -1", () -> b.cell(-1, 0));
        b.memory(0, 0);
        refused("of none", () -> b.cell(0, 0));
    }

    private static void codeOf() {
        at("promise 18");
        BarrelSlots b = single();
        refused("none such", () -> b.code(0, 0, 0));
        b.tell(0, JUMP, -5, 1, 1000);
        b.tell(0, LOOP, 2, 1, -9);
        int[] want = {JUMP, -5, 1, 1000, 0, LOOP, 2, 1, -9, 0};
        for (int k = 0; k < want.length; k++) {
            due("code", b.code(0, k / 5, k % 5), want[k]);
        }
        b.run(2);
        due("still back", b.code(0, 1, 4), 1);
        b.run(1);
        due("still back", b.code(0, 1, 4), 0);
        due("yet begun", b.thread(0, 5), 0);
        b.run(1);
        due("gone on", b.thread(0, 5), 1);
        refused("what 5", () -> b.code(0, 0, 5));
        refused("what -1", () -> b.code(0, 0, -1));
        refused("place 2", () -> b.code(0, 2, 0));
        refused("place -1", () -> b.code(0, -1, 0));
        refused("thread 6", () -> b.code(6, 0, 0));
        refused("thread -1", () -> b.code(-1, 0, 0));
        b.wipe(0);
        refused("wiped", () -> b.code(0, 0, 0));
    }

    private static void threadOf() {
        at("promise 19");
        BarrelSlots b = single();
        due("what 13", b.thread(0, 13), -2);
        due("what -1", b.thread(0, -1), -2);
        due("thread 6", b.thread(6, 0), -2);
        due("thread -1", b.thread(-1, 0), -2);
        b.hard(0, false);
        b.memory(0, 5);
        b.due(0, 12);
        b.asks(0, 4);
        b.slots(2);
        code(b, 0, i(SET, 1, 40), i(WAIT, 1));
        b.run(3);
        int[] want = {1, 0, 0, 2, 1, 1, 40, 0, 2, 0, 5, 12, 4};
        for (int what = 0; what < want.length; what++) {
            due("what " + what, b.thread(0, what), want[what]);
        }
        due("of another", b.thread(1, 3), 0);
    }

    private static void level() {
        at("promise 20");
        BarrelSlots b = single();
        b.pin(2, true);
        b.pin(6, false);
        code(b, 0, i(OUT, 2, 1));
        b.set(0, 1, 1);
        b.run(1);
        due("is", b.level(2, 0), 1);
        due("out", b.level(2, 1), 1);
        due("in", b.level(6, 1), 0);
        due("none", b.level(3, 1), 2);
        due("what 2", b.level(2, 2), -1);
        due("what -1", b.level(2, -1), -1);
        due("pin 8", b.level(8, 0), -1);
        due("pin -1", b.level(-1, 1), -1);
    }

    private static void edge() {
        at("promise 21");
        BarrelSlots b = single();
        b.pin(1, true);
        code(b, 0, i(OUT, 1, 1), i(ADD, 1, 1, 2));
        b.set(0, 1, 1);
        b.set(0, 2, 1);
        b.run(79);
        due("forty", b.count(6), 40);
        due("first", b.edge(39, 0), 0);
        b.run(1);
        b.run(1);
        due("forty still", b.count(6), 40);
        due("latest", b.edge(0, 0), 80);
        due("pin", b.edge(0, 1), 1);
        due("level", b.edge(0, 2), 1);
        due("level", b.edge(1, 2), 0);
        due("late", b.edge(0, 3), 0);
        due("oldest", b.edge(39, 0), 2);
        due("none such", b.edge(40, 0), -1);
        due("none such", b.edge(-1, 0), -1);
        due("what 4", b.edge(0, 4), -1);
        due("what -1", b.edge(0, -1), -1);
    }

    private static void channelOf() {
        at("promise 22");
        BarrelSlots b = new BarrelSlots();
        for (int what = 0; what < 3; what++) {
            due("channel 4", b.channel(4, what), -1);
            due("channel -1", b.channel(-1, what), -1);
        }
        due("nobody", b.channel(0, 0) + b.channel(0, 1), 0);
        due("first of nobody", b.channel(0, 2), -1);
        due("what 3", b.channel(0, 3), -1);
        due("what -1", b.channel(0, -1), -1);
        b.slots(2);
        b.slot(0, 4);
        b.slot(1, 2);
        code(b, 4, i(TAKE, 0, 0));
        code(b, 2, i(TAKE, 0, 0));
        b.run(2);
        due("take", b.channel(0, 1), 2);
        due("first that came", b.channel(0, 2), 4);
        b.wipe(4);
        due("the next", b.channel(0, 2), 2);
    }

    private static void table() {
        at("promise 23");
        BarrelSlots b = new BarrelSlots();
        b.slots(3);
        b.slot(1, 4);
        due("spare", b.table(0), -1);
        due("of 4", b.table(1), 4);
        due("none such", b.table(3), -2);
        due("none such", b.table(-1), -2);
    }

    private static void isPlain(int want, int[]... rows) {
        BarrelSlots b = new BarrelSlots();
        code(b, 0, rows);
        due("plain of " + java.util.Arrays.deepToString(rows), b.bound(0, 0), want);
        if (want == 0) {
            for (int what = 1; what <= 4; what++) {
                due("what " + what, b.bound(0, what), -1);
            }
        }
    }

    private static void plain() {
        at("promise 24");
        for (int kind = 0; kind <= 20; kind++) {
            boolean plain = kind <= 10 || kind == 12 || kind == 15 || kind >= 19;
            isPlain(plain ? 1 : 0, i(kind, 0, kind == JUMP || kind == BRANCH ? 1 : 0));
        }
        isPlain(0, i(JUMP, 0, 0));
        isPlain(0, i(SET), i(BRANCH, 0, 1), i(SET));
        isPlain(1, i(SET), i(BRANCH, 0, 2), i(SET));
        isPlain(1, i(SET), i(JUMP, 0, 23));
        // loops: apart, one within the other from the same first, crossing by one place, crossing
        isPlain(1, i(SET), i(LOOP, 1, 0), i(SET), i(LOOP, 1, 2));
        isPlain(1, i(SET), i(LOOP, 1, 0), i(SET), i(LOOP, 1, 0));
        isPlain(1, i(SET), i(SET), i(LOOP, 1, 1), i(LOOP, 1, 0));
        isPlain(0, i(SET), i(LOOP, 1, 0), i(LOOP, 1, 1));
        isPlain(0, i(SET), i(SET), i(LOOP, 1, 0), i(SET), i(LOOP, 1, 1));
        isPlain(1, i(LOOP, 1, 0), i(LOOP, 1, 0));
        // leaps: to the last place of their loop, beyond it, into one at its first, behind its first, over it
        isPlain(1, i(BRANCH, 0, 2), i(SET), i(LOOP, 1, 0), i(SET));
        isPlain(0, i(BRANCH, 0, 3), i(SET), i(LOOP, 1, 0), i(SET));
        isPlain(0, i(JUMP, 0, 23), i(SET), i(LOOP, 1, 0));
        isPlain(1, i(BRANCH, 0, 2), i(SET), i(SET), i(LOOP, 1, 2));
        isPlain(0, i(BRANCH, 0, 3), i(SET), i(SET), i(LOOP, 1, 2));
        isPlain(0, i(BRANCH, 0, 2), i(SET), i(SET), i(LOOP, 1, 1));
        isPlain(1, i(BRANCH, 0, 4), i(SET), i(SET), i(LOOP, 1, 2), i(SET));
    }

    private static void isBound(int least, int most, int[]... rows) {
        BarrelSlots b = new BarrelSlots();
        code(b, 1, rows);
        due("least", b.bound(1, 1), least);
        due("most", b.bound(1, 2), most);
    }

    private static void bound() {
        at("promise 24");
        isBound(1, 1, i(SET));
        isBound(2, 3, i(BRANCH, 0, 2), i(SET), i(SET));
        isBound(2, 2, i(JUMP, 0, 2), i(SET), i(SET));
        isBound(1, 1, i(JUMP, 0, 9), i(SET));
        isBound(8, 8, i(LOOP, 7, 0));
        // a body of 2 or 3, four times, each time anew, then 1
        isBound(9, 13, i(BRANCH, 0, 2), i(SET), i(LOOP, 3, 0), i(SET));
        // over the loop or through it
        isBound(2, 10, i(BRANCH, 0, 3), i(SET), i(LOOP, 3, 1), i(SET));
        // within: 2 * (3 * 2 + 1)
        isBound(14, 14, i(SET), i(LOOP, 2, 0), i(LOOP, 1, 0));
        // 8 + 64 + .. + 8^6 = 299592, and one more loop is above 999999
        isBound(299592, 299592, i(LOOP, 7, 0), i(LOOP, 7, 0), i(LOOP, 7, 0), i(LOOP, 7, 0), i(LOOP, 7, 0), i(LOOP, 7, 0));
        int[][] deep = new int[24][];
        for (int k = 0; k < 24; k++) {
            deep[k] = i(LOOP, 7, 0);
        }
        isBound(999999, 999999, deep);
        deep[0] = i(BRANCH, 0, 23);
        isPlain(0, deep);
        int[][] over = new int[24][];
        for (int k = 0; k < 24; k++) {
            over[k] = i(LOOP, 7, 1);
        }
        over[0] = i(BRANCH, 0, 23);
        over[23] = i(SET);
        isBound(2, 999999, over);
        BarrelSlots b = new BarrelSlots();
        due("thread 6", b.bound(6, 0), -1);
        due("thread -1", b.bound(-1, 5), -1);
        due("what 6", b.bound(0, 6), -1);
        due("what -1", b.bound(0, -1), -1);
        due("empty is not safe", b.bound(0, 5), 0);
        code(b, 0, i(BRANCH, 0, 2), i(SET), i(SET));
        due("no slot", b.bound(0, 3), -1);
        due("no slot", b.bound(0, 4), -1);
        b.slots(4);
        b.slot(1, 0);
        b.slot(2, 0);
        // best of 2 from slot 1: 2; worst of 3 from slot 3: 3 0 1 2 3 0 1
        due("best", b.bound(0, 3), 2);
        due("worst", b.bound(0, 4), 7);
        due("no due", b.bound(0, 5), 0);
        b.due(0, 6);
        due("too soon", b.bound(0, 5), 0);
        b.due(0, 7);
        due("safe", b.bound(0, 5), 1);
        due("bits", b.count(11), 1);
        b.hard(0, false);
        due("soft", b.bound(0, 5), 0);
        b.hard(0, true);
        b.slots(1);
        due("no slot", b.bound(0, 5), 0);
        b.slot(0, 0);
        due("safe again", b.bound(0, 5), 1);
        b.tell(0, HALT, 0, 0, 0);
        due("not plain", b.bound(0, 5), 0);
        BarrelSlots m = single();
        code(m, 0, i(LOOP, 7, 0), i(LOOP, 7, 0), i(LOOP, 7, 0), i(LOOP, 7, 0), i(LOOP, 7, 0), i(LOOP, 7, 0));
        due("more than 100000 turns", m.bound(0, 3), -1);
        due("more than 100000 turns", m.bound(0, 4), -1);
        m.due(0, 9999);
        due("not safe", m.bound(0, 5), 0);
    }

    private static void span() {
        at("promise 25");
        BarrelSlots b = new BarrelSlots();
        due("no slot", b.span(0, 1, 0), -1);
        b.slots(16);
        b.slot(0, 0);
        b.slot(1, 0);
        b.slot(5, 0);
        // worst of 1 from slot 6: 6 to 15, 0; of 2 from slot 2: 2 to 15, 0
        int[] best = {1, 2, 6};
        int[] worst = {11, 15, 16};
        for (int k = 1; k <= 3; k++) {
            due("best " + k, b.span(0, k, 0), best[k - 1]);
            due("worst " + k, b.span(0, k, 1), worst[k - 1]);
        }
        due("best 4", b.span(0, 4, 0), 17);
        due("worst 4", b.span(0, 4, 1), 27);
        due("best 100000", b.span(0, 100000, 0), 33333 * 16 + 1);
        due("worst 100000", b.span(0, 100000, 1), 33333 * 16 + 11);
        due("0 turns", b.span(0, 0, 0), -1);
        due("100001 turns", b.span(0, 100001, 0), -1);
        due("-1 turns", b.span(0, -1, 0), -1);
        due("what 2", b.span(0, 1, 2), -1);
        due("what -1", b.span(0, 1, -1), -1);
        due("thread 6", b.span(6, 1, 0), -1);
        due("a spare one is no thread", b.span(-1, 1, 0), -1);
        due("thread without", b.span(1, 1, 0), -1);
        b.slots(1);
        due("each tick", b.span(0, 100000, 1), 100000);
    }

    private static void will() {
        at("promise 26");
        BarrelSlots b = new BarrelSlots();
        b.slots(5);
        b.slot(3, 2);
        code(b, 2, i(CLOCK, 0));
        due("first", b.will(2, 1), 3);
        due("60th", b.will(2, 60), 298);
        due("61st", b.will(2, 61), -1);
        due("0th", b.will(2, 0), -1);
        due("thread 6", b.will(6, 1), -1);
        due("thread -1", b.will(-1, 1), -1);
        due("no code", b.will(1, 1), -1);
        b.run(4);
        due("from now on", b.will(2, 1), 8);
        due("changes nothing", b.thread(2, 3), 1);
        due("now stays", b.count(0), 4);
        b.slots(6);
        due("not within 300", b.will(2, 51), -1);
        due("50th", b.will(2, 50), 303);
        BarrelSlots w = single();
        code(w, 0, i(WAIT, 1), i(LOAD, 0, 0));
        w.set(0, 1, 299);
        due("the last of 300 ticks", w.will(0, 2), 299);
        due("behind a trap", w.will(0, 3), -1);
        w.set(0, 1, 300);
        due("beyond", w.will(0, 2), -1);
        BarrelSlots c = single();
        c.hard(1, false);
        code(c, 0, i(TAKE, 0, 1), i(HALT));
        code(c, 1, i(SET, 1, 6), i(SEND, 0, 1), i(HALT));
        due("others go on in it", c.will(0, 2), 3);
        due("and it did not happen", c.count(12) + c.thread(1, 3) + c.channel(0, 1), 0);
    }

    private static void alone() {
        at("promise 27");
        BarrelSlots b = single();
        b.hard(1, false);
        b.hard(2, false);
        code(b, 0, i(TAKE, 0, 1), i(HALT));
        code(b, 1, i(SET, 1, 6), i(SEND, 0, 1), i(HALT));
        code(b, 2, i(CLOCK, 0));
        due("with others", b.will(0, 2), 4);
        due("without", b.alone(0, 2), -1);
        due("first", b.alone(0, 1), 0);
        due("soft with others", b.will(2, 2), 5);
        due("soft without", b.alone(2, 2), 1);
        due("60th", b.alone(2, 60), 59);
        due("codes stay", b.thread(0, 8) + b.thread(1, 8) + b.thread(2, 8), 6);
        due("61st", b.alone(2, 61), -1);
        due("0th", b.alone(2, 0), -1);
        due("thread 6", b.alone(6, 1), -1);
        due("thread -1", b.alone(-1, 1), -1);
        b.run(1);
        due("takes now", b.channel(0, 1), 1);
        due("still alone", b.alone(2, 1), 1);
        due("stays at its channel", b.channel(0, 1), 1);
    }

    private static void ahead() {
        at("promise 28");
        BarrelSlots b = single();
        b.pin(0, false);
        b.event(0, 4, true);
        code(b, 0, i(CLOCK, 0), i(IN, 0, 1));
        due("behind 1", b.ahead(0, 0, 1), 0);
        due("behind 3", b.ahead(0, 0, 3), 2);
        due("behind 300", b.ahead(0, 0, 300), 298);
        due("events that are told", b.ahead(0, 1, 5), 0);
        due("events that are told", b.ahead(0, 1, 6), 1);
        due("changes nothing", b.count(0) + b.register(0, 0) + b.level(0, 0), 0);
        b.run(2);
        due("from now on", b.ahead(0, 0, 1), 2);
        BarrelSlots c = single();
        c.memory(0, 4);
        code(c, 0, i(SET, 1, 3), i(STORE, 1, 1), i(LOAD, 2, 1), i(HALT));
        c.run(2);
        due("cells as they are", c.ahead(0, 2, 1), 3);
        due("memory stays", c.cell(0, 3), 3);
        BarrelSlots s = new BarrelSlots();
        s.slots(2);
        s.slot(0, 0);
        s.slot(1, 1);
        s.set(0, 1, 44);
        code(s, 0, i(SEND, 2, 1), i(HALT));
        code(s, 1, i(WAIT, 5), i(TAKE, 2, 6), i(HALT));
        s.set(1, 5, 8);
        s.run(4);
        s.set(0, 1, 45);
        due("who is at channels, and who waits", s.ahead(1, 6, 5), 0);
        due("who is at channels, and who waits", s.ahead(1, 6, 6), 44);
        due("sends still", s.channel(2, 0), 1);
        BarrelSlots l = single();
        code(l, 0, i(LOOP, 4, 0), i(CLOCK, 1), i(HALT));
        l.run(2);
        due("loops as begun", l.ahead(0, 1, 10), 5);
        due("loop stays", l.code(0, 0, 4), 2);
        refused("0 ticks", () -> b.ahead(0, 0, 0));
        refused("301 ticks", () -> b.ahead(0, 0, 301));
        refused("register 8", () -> b.ahead(0, 8, 1));
        refused("register -1", () -> b.ahead(0, -1, 1));
        refused("thread 6", () -> b.ahead(6, 0, 1));
        refused("thread -1", () -> b.ahead(-1, 0, 1));
    }

    private static void share() {
        at("promise 29");
        BarrelSlots b = new BarrelSlots();
        b.slots(3);
        b.slot(0, 0);
        code(b, 0, i(SET));
        due("now is 0", b.share(0), -1);
        for (int t = 1; t <= 30; t++) {
            b.run(1);
            due("share", b.share(0), Float.floatToIntBits((float) ((t + 2) / 3) / (float) t));
        }
        due("nothing done", b.share(1), 0);
        due("none such", b.share(6), -1);
        due("none such", b.share(-1), -1);
        b.start();
        due("now is 0 again", b.share(0), -1);
    }

    private static void count() {
        at("promise 30");
        BarrelSlots b = new BarrelSlots();
        due("what 13", b.count(13), -1);
        due("what -1", b.count(-1), -1);
        b.slots(4);
        b.slot(0, 0);
        b.slot(1, 1);
        b.hard(5, false);
        b.pin(0, true);
        b.pin(4, false);
        b.event(4, 50, true);
        b.due(0, 8);
        // 0: rounds of one; 1: traps in tick 5; 5: late in tick 2, then sends, halts
        code(b, 0, i(SET, 0, 1));
        code(b, 1, i(TAKE, 1, 0), i(LOAD, 0, 0));
        code(b, 5, i(OUTAT, 0, 1, 2), i(SEND, 1, 1), i(HALT));
        b.set(5, 1, 1);
        b.set(5, 2, -1);
        b.run(8);
        // ticks: 0 by 0, 1 by 1, 2 given, 3 given, 4 by 0, 5 by 1, 6 given, 7 lost
        int[] want = {8, 4, 2, 3, 1, 7, 1, 1, 1, 5, 2, 1, 1};
        for (int what = 0; what < want.length; what++) {
            due("count(" + what + ")", b.count(what), want[what]);
        }
    }
}
