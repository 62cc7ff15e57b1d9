/** Terms 1 and 2 of the document: each sentence that names a boundary, at it and beside it. */
public final class TermTests extends Check {
    public static void main(String[] args) {
        fullCode();
        registers();
        cells();
        states();
        channelsApart();
        banks();
        fullEvents();
        fullTable();
        firstTick();
        eventsOfATick();
        waitersOfATick();
        waitersAheadOfTheTurn();
        slotOfATick();
        ownTurn();
        givenTurn();
        givenRound();
        lostTurn();
        behindTheLast();
        leapsBehindTheLast();
        lastOneMoves();
        lastOneStops();
        sums();
        less();
        ofCells();
        branches();
        loops();
        loopsBegunAnew();
        loopsLeft();
        levels();
        ticksAbove();
        ticksNotAbove();
        ticksFarOff();
        inputs();
        waits();
        sendersInOrder();
        takersInOrder();
        asInThatTurn();
        ratios();
        parts();
        trapsOfMemory();
        trapsOfPins();
        trapsOfClaims();
        claimsOver();
        trapStops();
        edges();
        latestEdges();
        lateEdges();
        end("all boundaries of terms 1 and 2 hold");
    }

    private static void fullCode() {
        at("INSTRUCTIONS, 24 at most, at PLACES from 0");
        BarrelSlots b = single();
        for (int place = 0; place < 24; place++) {
            due("tell", b.tell(0, SET, place % 8, 100 + place, 0), place);
        }
        due("a 25th", b.tell(0, SET, 7, 999, 0), -1);
        due("still 24", b.thread(0, 8), 24);
        due("the first", b.code(0, 0, 2), 100);
        due("the last", b.code(0, 23, 2), 123);
        refused("place 24", () -> b.code(0, 24, 0));
        b.run(24);
        due("done by the last", b.register(0, 7), 123);
        stands("behind the last", b, 0, READY, 0, 1);
        due("room of another", b.tell(1, HALT, 0, 0, 0), 0);
        due("had", b.wipe(0), 24);
        due("room again", b.tell(0, HALT, 0, 0, 0), 0);
    }

    private static void registers() {
        at("REGISTERS 0 to 7 (ints, 0 at first)");
        BarrelSlots b = new BarrelSlots();
        for (int k = 0; k < 48; k++) {
            due("at first", b.set(k / 8, k % 8, MIN + k), 0);
        }
        for (int k = 0; k < 48; k++) {
            due("each by itself", b.set(k / 8, k % 8, MAX - k), MIN + k);
        }
        for (int k = 0; k < 48; k++) {
            due("each by itself", b.register(k / 8, k % 8), MAX - k);
        }
    }

    private static void cells() {
        at("a MEMORY or none (at first) of 0 to 16 CELLS (ints, 0 at first)");
        BarrelSlots b = single();
        due("none at first", b.thread(0, 10), -1);
        refused("no cell without", () -> b.cell(0, 0));
        for (int n = 0; n <= 16; n++) {
            int cells = n;
            due("memory", b.memory(0, n), n - 1);
            due("cells", b.thread(0, 10), n);
            if (n > 0) {
                due("the last", b.cell(0, n - 1), 0);
            }
            refused("behind the last of " + n, () -> b.cell(0, cells));
            refused("ahead of the first of " + n, () -> b.cell(0, -1));
        }
        code(b, 0, i(STORE, 1, 0), i(ADD, 0, 0, 2), i(ADD, 1, 1, 2));
        b.set(0, 1, MIN);
        b.set(0, 2, 1);
        b.run(48);
        for (int cell = 0; cell < 16; cell++) {
            due("each by itself", b.cell(0, cell), MIN + cell);
        }
        due("of another", b.thread(1, 10), -1);
    }

    private static void states() {
        at("STATE: 0 READY, 1 WAITS (till a tick), 2 SENDS, 3 TAKES (at a CHANNEL), 4 HALTED, 5 TRAPPED");
        BarrelSlots b = withTable(0, 1, 2, 3, 4, 5);
        code(b, 0, i(SET));
        code(b, 1, i(WAIT, 0));
        code(b, 2, i(SEND, 0, 0));
        code(b, 3, i(TAKE, 1, 0));
        code(b, 4, i(HALT));
        code(b, 5, i(LOAD, 0, 0));
        b.set(1, 0, 2);
        b.run(2);
        for (int t = 0; t < 6; t++) {
            due("state of " + t + " behind two ticks", b.thread(t, 0), t == 1 ? WAITS : READY);
            due("till", b.thread(t, 6), t == 1 ? 2 : -1);
        }
        b.run(4);
        int[] want = {READY, READY, SENDS, TAKES, HALTED, TRAPPED};
        for (int t = 0; t < 6; t++) {
            due("state of " + t, b.thread(t, 0), want[t]);
            due("trap of " + t, b.thread(t, 2), t == 5 ? 1 : 0);
        }
        due("only the trapped one", b.count(10), 32);
    }

    private static void channelsApart() {
        at("CHANNELS 0 to 3");
        BarrelSlots b = withTable(0, 1, 2, 3, 4);
        for (int t = 0; t < 4; t++) {
            code(b, t, i(TAKE, t, 1));
        }
        code(b, 4, i(SEND, 3, 1), i(SEND, 0, 2), i(HALT));
        b.set(4, 1, 33);
        b.set(4, 2, 44);
        b.run(4);
        for (int c = 0; c < 4; c++) {
            due("takes", b.channel(c, 1), 1);
            due("first", b.channel(c, 2), c);
        }
        b.run(1);
        due("came through 3", b.register(3, 1), 33);
        due("nobody at 3", b.channel(3, 1), 0);
        due("not through 2", b.channel(2, 1), 1);
        b.run(5);
        due("came through 0", b.register(0, 1), 44);
        due("not to 1", b.register(1, 1), 0);
    }

    private static void banks() {
        at("a BANK has PINS of one kind alone, that of the first that was told");
        for (int first = 0; first < 8; first++) {
            for (int second = 0; second < 8; second++) {
                for (int kinds = 0; kinds < 4; kinds++) {
                    boolean one = kinds % 2 == 1;
                    boolean other = kinds / 2 == 1;
                    boolean fits = first != second && (first / 4 != second / 4 || one == other);
                    BarrelSlots b = new BarrelSlots();
                    due("none at first", b.level(first, 1), 2);
                    due("the first", b.pin(first, one), true);
                    due(second + " behind " + first, b.pin(second, other), fits);
                    due("kind of the first", b.level(first, 1), one ? 1 : 0);
                    due("0 at first", b.level(first, 0), 0);
                    if (first != second) {
                        due("kind of the second", b.level(second, 1), fits ? (other ? 1 : 0) : 2);
                    }
                }
            }
        }
    }

    private static void fullEvents() {
        at("EVENTS: 32 at most: a tick, an IN PIN, what it is from then on");
        BarrelSlots b = new BarrelSlots();
        b.pin(0, false);
        b.pin(3, false);
        for (int n = 1; n <= 31; n++) {
            due("the " + n + ".", b.event(0, 5, n % 2 == 1), n);
        }
        due("the 32nd", b.event(0, 7, false), 32);
        due("a 33rd", b.event(0, 7, true), -1);
        due("still 32", b.count(7), 32);
        int[] want = {0, 0, 0, 0, 0, 1, 1, 0, 0};
        for (int t = 0; t < want.length; t++) {
            b.run(1);
            due("behind tick " + t, b.level(0, 0), want[t]);
            due("the other pin", b.level(3, 0), 0);
        }
        due("those gone by count on", b.count(7), 32);
        due("no room by that", b.event(0, 20, true), -1);
    }

    private static void fullTable() {
        at("TABLE: 1 to 16 SLOTS, each of a THREAD or SPARE (at first one, SPARE)");
        isTable(new BarrelSlots(), -1);
        int[] owners = {5, -1, 4, 3, 2, 1, 0, 0, 1, 2, 3, 4, 5, -1, -1, 5};
        BarrelSlots b = withTable(owners);
        isTable(b, owners);
        due("spare ones", b.count(2), 3);
        due("17", b.slots(17), -1);
        isTable(b, owners);
        due("down to 1", b.slots(1), 16);
        isTable(b, 5);
        due("0", b.slots(0), -1);
        isTable(b, 5);
    }

    private static void firstTick() {
        at("NOW: the tick that comes next (0 at first)");
        BarrelSlots b = single();
        code(b, 0, i(CLOCK, 0));
        b.set(0, 0, 7);
        due("at first", b.count(0), 0);
        b.run(1);
        due("the first is 0", b.register(0, 0), 0);
        due("the next", b.count(0), 1);
        b.run(1);
        due("then 1", b.register(0, 0), 1);
    }

    private static void eventsOfATick() {
        at("of EVENTS of t, in the order in which they were told, each PIN becomes so");
        BarrelSlots b = single();
        b.pin(4, false);
        b.pin(5, false);
        b.event(4, 3, true);
        b.event(5, 3, false);
        b.event(4, 3, false);
        b.event(5, 3, true);
        b.event(4, 2, true);
        b.run(3);
        due("a later told one of an earlier tick", b.level(4, 0), 1);
        due("not yet", b.level(5, 0), 0);
        b.run(1);
        due("the last told is off", b.level(4, 0), 0);
        due("the last told is on", b.level(5, 0), 1);
        at("first, of EVENTS of t .. Then the TURN");
        BarrelSlots c = single();
        c.pin(0, false);
        c.event(0, 2, true);
        code(c, 0, i(IN, 0, 1));
        c.run(2);
        due("in the tick ahead", c.register(0, 1), 0);
        c.run(1);
        due("in its tick", c.register(0, 1), 1);
    }

    private static void waitersOfATick() {
        at("by numbers each THREAD that WAITS till t does what it waits for");
        BarrelSlots b = withTable(4, 1, -1);
        b.pin(0, true);
        b.pin(1, true);
        for (int t = 1; t <= 4; t += 3) {
            code(b, t, i(OUTAT, t == 4 ? 0 : 1, 1, 2), i(HALT));
            b.set(t, 1, 1);
            b.set(t, 2, 5);
        }
        b.run(5);
        due("none yet", b.count(6), 0);
        b.run(1);
        due("both", b.count(6), 2);
        isEdge(b, 0, 5, 0, 1, 0);
        isEdge(b, 1, 5, 1, 1, 0);
        at("first, of EVENTS of t .. what it reads is read");
        for (int tick = 4; tick <= 6; tick++) {
            BarrelSlots c = single();
            c.pin(4, false);
            c.event(4, tick, true);
            code(c, 0, i(INAT, 4, 1, 2), i(HALT));
            c.set(0, 1, 9);
            c.set(0, 2, 5);
            c.run(5);
            due("not read yet", c.register(0, 1), 9);
            c.run(3);
            due("read at 5, event at " + tick, c.register(0, 1), tick <= 5 ? 1 : 0);
        }
    }

    private static void waitersAheadOfTheTurn() {
        at("what it writes to a PIN comes to that; .. it is READY. Then the TURN");
        for (int v = 0; v <= 1; v++) {
            BarrelSlots b = withTable(0, 1);
            b.pin(0, true);
            code(b, 0, i(OUTAT, 0, 1, 2), i(HALT));
            code(b, 1, i(OUT, 0, 1));
            b.set(0, 1, 1);
            b.set(0, 2, 3);
            b.run(3);
            b.set(1, 1, v);
            b.run(1);
            due("the turn's write is the later one", b.level(0, 0), v);
            due("edges", b.count(6), v == 0 ? 2 : 1);
            isEdge(b, 0, 3, 0, v, 0);
        }
        BarrelSlots own = single();
        code(own, 0, i(WAIT, 1), i(CLOCK, 2), i(HALT));
        own.set(0, 1, 4);
        own.run(5);
        due("its own turn in that tick", own.register(0, 2), 4);
        BarrelSlots soft = withTable(-1);
        soft.hard(3, false);
        code(soft, 3, i(WAIT, 1), i(CLOCK, 2), i(HALT));
        soft.set(3, 1, 4);
        soft.run(5);
        due("a given turn in that tick", soft.register(3, 2), 4);
        due("lost while it waited", soft.count(4), 3);
    }

    private static void slotOfATick() {
        at("that of the SLOT t modulo how many there are");
        BarrelSlots b = withTable(0, -1, -1, -1, -1, -1, -1, -1, -1, -1, -1, -1, -1, -1, -1, 1);
        code(b, 0, i(CLOCK, 0));
        code(b, 1, i(CLOCK, 0));
        b.run(15);
        due("slot 0", b.register(0, 0), 0);
        due("slot 15 not yet", b.thread(1, 3), 0);
        b.run(1);
        due("slot 15", b.register(1, 0), 15);
        b.run(1);
        due("slot 0 again", b.register(0, 0), 16);
        // tick 17 is slot 2 of three
        b.slots(3);
        b.slot(2, 1);
        b.run(1);
        due("by how many there are now", b.register(1, 0), 17);
        b.run(1);
        due("round", b.register(0, 0), 18);
        due("all others lost", b.count(4), 14);
    }

    private static void ownTurn() {
        at("of its THREAD, if that is READY and has a CODE; else .. GIVEN");
        BarrelSlots b = single();
        b.hard(0, false);
        b.hard(1, false);
        code(b, 0, i(SET));
        code(b, 1, i(SET));
        b.run(3);
        due("a soft one's own turn is not given", b.count(3), 0);
        due("nor another's", b.thread(1, 3), 0);
        due("last", b.count(9), -1);
        int[][] stops = {i(WAIT, 7), i(SEND, 0, 0), i(TAKE, 0, 0), i(HALT), i(LOAD, 0, 0)};
        for (int[] stop : stops) {
            BarrelSlots c = single();
            c.hard(1, false);
            c.set(0, 7, 50);
            code(c, 0, stop);
            code(c, 1, i(SET));
            c.run(1);
            due("none given yet", c.count(3), 0);
            c.run(2);
            due("given as the owner is not ready, kind " + stop[0], c.thread(1, 4), 2);
        }
        BarrelSlots d = single();
        d.hard(1, false);
        code(d, 1, i(SET));
        d.run(1);
        due("given as the owner has no code", d.thread(1, 4), 1);
    }

    private static void givenTurn() {
        at("GIVEN to the first SOFT THREAD that is READY and has a CODE");
        BarrelSlots b = withTable(-1);
        for (int t = 0; t < 6; t++) {
            b.hard(t, t == 0);
        }
        // 0 is hard, 1 has no code, 2 halts, 3 waits, 4 traps, 5 goes
        code(b, 0, i(SET));
        code(b, 2, i(HALT));
        code(b, 3, i(WAIT, 1));
        code(b, 4, i(LOAD, 0, 0));
        code(b, 5, i(SET));
        b.set(3, 1, 9);
        int[] last = {2, 3, 4, 5, 5, 5, 5, 5, 5, 3, 5};
        for (int t = 0; t < last.length; t++) {
            b.run(1);
            due("given in tick " + t, b.count(9), last[t]);
        }
        due("the hard one", b.thread(0, 3), 0);
        due("the empty one", b.thread(1, 4), 0);
        due("all given", b.count(3), last.length);
        due("none lost", b.count(4), 0);
    }

    private static void givenRound() {
        at("from the one behind that to which a TURN was GIVEN last (at first: from 0 on), behind 5 comes 0");
        BarrelSlots b = allSoft();
        for (int tick = 0; tick < 13; tick++) {
            b.run(1);
            due("in tick " + tick, b.count(9), tick % 6);
        }
        b.wipe(0);
        b.wipe(1);
        b.run(1);
        due("behind the wiped one", b.count(9), 2);
        b.wipe(2);
        b.wipe(3);
        b.wipe(4);
        b.run(1);
        due("one alone", b.count(9), 5);
        b.run(1);
        due("round to itself", b.count(9), 5);
        code(b, 0, i(SET));
        b.run(1);
        due("behind 5 comes 0", b.count(9), 0);
    }

    private static void lostTurn() {
        at("if there is none it is LOST");
        BarrelSlots b = withTable(0, -1);
        code(b, 0, i(SET), i(HALT));
        code(b, 1, i(SET));
        due("of two turns one", b.run(2), 1);
        due("lost", b.count(4), 1);
        b.run(2);
        due("halted", b.thread(0, 0), HALTED);
        due("lost", b.count(4), 2);
        due("all of these", b.run(2), 0);
        due("lost", b.count(4), 4);
        due("hard ones get none", b.thread(1, 3), 0);
        due("given", b.count(3), 0);
    }

    private static void behindTheLast() {
        at("the PLACE is one more .. behind the last one it is 0, that is a ROUND more");
        for (int length = 1; length <= 24; length++) {
            BarrelSlots b = single();
            for (int place = 0; place < length; place++) {
                b.tell(0, CLOCK, 0, 0, 0);
            }
            b.run(length - 1 > 0 ? length - 1 : 200);
            if (length > 1) {
                stands("at the last of " + length, b, 0, READY, length - 1, 0);
                b.run(1);
            }
            stands("behind the last of " + length, b, 0, READY, 0, length == 1 ? 200 : 1);
        }
    }

    private static void leapsBehindTheLast() {
        at("behind the last one (as JUMP, BRANCH may say, too) it is 0, that is a ROUND more");
        // of three: to the first, to itself, to the last, behind it, far behind it
        int[][] ways = {{0, 0, 0}, {1, 1, 0}, {2, 2, 0}, {3, 0, 1}, {4, 0, 1}, {23, 0, 1}};
        for (int[] way : ways) {
            for (int kind = JUMP; kind <= BRANCH; kind++) {
                BarrelSlots b = single();
                code(b, 0, i(SET, 1, 1), i(kind, 1, way[0]), i(SET));
                b.run(2);
                stands("to " + way[0], b, 0, READY, way[1], way[2]);
            }
        }
        BarrelSlots full = single();
        code(full, 0, i(JUMP, 0, 23));
        for (int place = 1; place < 24; place++) {
            full.tell(0, CLOCK, 0, 0, 0);
        }
        full.run(1);
        stands("23 is the last of 24", full, 0, READY, 23, 0);
        full.run(1);
        stands("behind it", full, 0, READY, 0, 1);
        BarrelSlots not = single();
        code(not, 0, i(BRANCH, 0, 0));
        not.run(1);
        stands("a last one that does not branch", not, 0, READY, 0, 1);
        BarrelSlots loop = single();
        code(loop, 0, i(LOOP, 1, 0));
        loop.run(1);
        stands("a last one that goes back", loop, 0, READY, 0, 0);
        loop.run(1);
        stands("a last one that goes on", loop, 0, READY, 0, 1);
    }

    private static void lastOneMoves() {
        at("behind the last one .. it is 0: the last one of the CODE as it is");
        BarrelSlots b = single();
        code(b, 0, i(JUMP, 0, 2));
        b.run(1);
        stands("one alone", b, 0, READY, 0, 1);
        b.tell(0, SET, 0, 0, 0);
        b.run(1);
        stands("2 is behind two", b, 0, READY, 0, 2);
        b.tell(0, SET, 1, 5, 0);
        b.run(1);
        stands("2 is the last of three", b, 0, READY, 2, 2);
        b.tell(0, SET, 2, 6, 0);
        b.run(1);
        stands("there is one more by now", b, 0, READY, 3, 2);
    }

    private static void lastOneStops() {
        at("A THREAD that WAITS, SENDS, TAKES has its PLACE behind that INSTRUCTION already");
        int[][] stops = {i(WAIT, 7), i(OUTAT, 0, 0, 7), i(INAT, 4, 0, 7), i(SEND, 0, 0), i(TAKE, 0, 0), i(HALT)};
        int[] states = {WAITS, WAITS, WAITS, SENDS, TAKES, HALTED};
        for (int k = 0; k < stops.length; k++) {
            for (int behind = 0; behind <= 1; behind++) {
                BarrelSlots b = single();
                b.pin(0, true);
                b.pin(4, false);
                b.set(0, 7, 50);
                code(b, 0, i(SET), stops[k]);
                if (behind == 1) {
                    b.tell(0, SET, 0, 0, 0);
                }
                b.run(2);
                stands("kind " + stops[k][0], b, 0, states[k], behind == 1 ? 2 : 0, 1 - behind);
                b.run(5);
                due("nothing more is done", b.thread(0, 3), 2);
            }
        }
    }

    private static int computed(int kind, int a, int b) {
        BarrelSlots s = single();
        s.set(0, 1, a);
        s.set(0, 2, b);
        code(s, 0, i(kind, 0, 1, 2));
        s.run(1);
        due("Ry stays", s.register(0, 1), a);
        due("Rz stays", s.register(0, 2), b);
        return s.register(0, 0);
    }

    private static void sums() {
        at("ints wrap");
        due("MAX + 1", computed(ADD, MAX, 1), MIN);
        due("MIN + -1", computed(ADD, MIN, -1), MAX);
        due("MIN + MIN", computed(ADD, MIN, MIN), 0);
        due("MIN - 1", computed(SUB, MIN, 1), MAX);
        due("0 - MIN", computed(SUB, 0, MIN), MIN);
        due("MAX - -1", computed(SUB, MAX, -1), MIN);
        due("MIN * -1", computed(MUL, MIN, -1), MIN);
        due("65536 * 65536", computed(MUL, 65536, 65536), 0);
        due("65536 * 32768", computed(MUL, 65536, 32768), MIN);
        due("MAX * 2", computed(MUL, MAX, 2), -2);
        at("0 SET: Rx is y");
        BarrelSlots b = single();
        code(b, 0, i(SET, 0, MIN), i(SET, 7, MAX));
        b.run(2);
        due("the least", b.register(0, 0), MIN);
        due("the greatest", b.register(0, 7), MAX);
        at("1 ADD: Rx is Ry + Rz, of one and the same register");
        BarrelSlots c = single();
        code(c, 0, i(ADD, 7, 7, 7));
        c.set(0, 7, 21);
        c.run(1);
        due("twice", c.register(0, 7), 42);
    }

    private static void less() {
        at("4 LESS: 1, if Ry is less than Rz, else 0");
        due("less", computed(LESS, 4, 5), 1);
        due("equal", computed(LESS, 5, 5), 0);
        due("greater", computed(LESS, 6, 5), 0);
        due("MIN, MAX", computed(LESS, MIN, MAX), 1);
        due("MAX, MIN", computed(LESS, MAX, MIN), 0);
        due("MIN, MIN", computed(LESS, MIN, MIN), 0);
        due("-1, 0", computed(LESS, -1, 0), 1);
    }

    private static void ofCells() {
        at("5 LOAD: Rx is the CELL Ry. 6 STORE: the CELL Ry is Rx");
        for (int cell = 0; cell < 16; cell += 15) {
            BarrelSlots b = single();
            b.memory(0, 16);
            b.set(0, 1, cell);
            b.set(0, 2, -77);
            code(b, 0, i(STORE, 2, 1), i(LOAD, 3, 1), i(LOAD, 1, 1), i(HALT));
            b.run(4);
            due("stored", b.cell(0, cell), -77);
            due("the other one", b.cell(0, 15 - cell), 0);
            due("loaded", b.register(0, 3), -77);
            due("loaded over its own Ry", b.register(0, 1), -77);
        }
    }

    private static void branches() {
        at("8 BRANCH: it is y, if Rx is not 0");
        int[] values = {0, 1, -1, MIN, MAX};
        for (int v : values) {
            BarrelSlots b = single();
            code(b, 0, i(BRANCH, 7, 2), i(SET), i(SET));
            b.set(0, 7, v);
            b.run(1);
            due("of " + v, b.thread(0, 1), v == 0 ? 1 : 2);
        }
    }

    private static void loops() {
        at("9 LOOP: the PLACE is y, x times (0 to 7) as it is done again, then it goes on");
        for (int x = 0; x <= 7; x++) {
            BarrelSlots b = single();
            code(b, 0, i(ADD, 0, 0, 1), i(LOOP, x, 0), i(HALT));
            b.set(0, 1, 1);
            for (int k = 0; k < x; k++) {
                b.run(2);
                stands("gone back " + (k + 1) + " of " + x, b, 0, READY, 0, 0);
                due("still to go back", b.code(0, 1, 4), x - k - 1);
            }
            b.run(2);
            stands("gone on behind " + x, b, 0, READY, 2, 0);
            due("as not begun", b.code(0, 1, 4), 0);
            due("its body", b.register(0, 0), x + 1);
        }
    }

    private static void loopsBegunAnew() {
        at("then it goes on, and is as not begun");
        BarrelSlots b = single();
        code(b, 0, i(ADD, 0, 0, 1), i(LOOP, 2, 0));
        b.set(0, 1, 1);
        b.run(12);
        stands("two rounds", b, 0, READY, 0, 2);
        due("three each", b.register(0, 0), 6);
        at("a LOOP within a LOOP is begun anew each time");
        BarrelSlots c = single();
        code(c, 0, i(ADD, 0, 0, 1), i(LOOP, 7, 0), i(LOOP, 7, 0));
        c.set(0, 1, 1);
        c.run(135);
        stands("ahead of its end", c, 0, READY, 2, 0);
        c.run(1);
        stands("8 * (8 * 2 + 1)", c, 0, READY, 0, 1);
        due("64 times", c.register(0, 0), 64);
    }

    private static void loopsLeft() {
        at("x times as it is done again: one that was left goes on where it was");
        BarrelSlots b = single();
        code(b, 0, i(BRANCH, 1, 2), i(LOOP, 3, 0), i(SET));
        b.run(2);
        due("two still", b.code(0, 1, 4), 2);
        b.set(0, 1, 1);
        b.run(2);
        stands("left", b, 0, READY, 0, 1);
        due("two still", b.code(0, 1, 4), 2);
        b.set(0, 1, 0);
        b.run(2);
        due("one still", b.code(0, 1, 4), 1);
        b.run(4);
        stands("gone on", b, 0, READY, 2, 1);
    }

    private static void levels() {
        at("10 OUT: the PIN x is Ry, 1, if it is odd, else 0");
        int[] values = {0, 1, 2, 3, -1, -2, MIN, MAX, MIN + 1, MAX - 1};
        for (int v : values) {
            int odd = v % 2 == 0 ? 0 : 1;
            for (int before = 0; before <= 1; before++) {
                BarrelSlots b = single();
                b.pin(7, true);
                code(b, 0, i(OUT, 7, 1), i(OUT, 7, 2), i(OUTAT, 7, 1, 3), i(OUTAT, 7, 2, 4), i(HALT));
                b.set(0, 1, before);
                b.set(0, 2, v);
                b.set(0, 4, 9);
                b.run(2);
                due("out " + v, b.level(7, 0), odd);
                b.run(1);
                due("again", b.level(7, 0), before);
                b.run(7);
                due("at a tick " + v, b.level(7, 0), odd);
            }
        }
    }

    private static void ticksAbove() {
        at("OUTAT, INAT, WAIT: if the tick is above t, the THREAD WAITS till it");
        int[][] timed = {i(OUTAT, 0, 1, 2), i(INAT, 4, 1, 2), i(WAIT, 2)};
        for (int[] row : timed) {
            BarrelSlots b = single();
            b.pin(0, true);
            b.pin(4, false);
            b.event(4, 4, true);
            code(b, 0, i(SET), i(SET), i(SET), row, i(HALT));
            b.set(0, 1, 1);
            b.set(0, 2, 4);
            b.run(4);
            stands("in tick 3 till 4, kind " + row[0], b, 0, WAITS, 4, 0);
            due("till", b.thread(0, 6), 4);
            due("not written yet", b.level(0, 0), 0);
            b.run(1);
            stands("halts in 4", b, 0, HALTED, 0, 1);
            due("waits no more", b.thread(0, 6), -1);
            due("written", b.level(0, 0), row[0] == OUTAT ? 1 : 0);
            due("not late", b.thread(0, 7), 0);
        }
    }

    private static void ticksNotAbove() {
        at("else it is done at once, and if it is less than t, it is LATE (OUTAT, INAT alone)");
        int[][] timed = {i(OUTAT, 0, 1, 2), i(INAT, 4, 3, 2), i(WAIT, 2)};
        for (int[] row : timed) {
            for (int tick = 2; tick <= 3; tick++) {
                BarrelSlots b = single();
                b.pin(0, true);
                b.pin(4, false);
                b.event(4, 3, true);
                code(b, 0, i(SET), i(SET), i(SET), row, i(HALT));
                b.set(0, 1, 1);
                b.set(0, 2, tick);
                b.run(4);
                String what = "kind " + row[0] + " till " + tick + " in 3";
                int late = tick < 3 && row[0] != WAIT ? 1 : 0;
                stands(what, b, 0, READY, 4, 0);
                due(what + ", till", b.thread(0, 6), -1);
                due(what + ", late", b.thread(0, 7), late);
                due(what + ", late of all", b.count(8), late);
                due(what + ", written", b.level(0, 0), row[0] == OUTAT ? 1 : 0);
                due(what + ", read as it is now", b.register(0, 3), row[0] == INAT ? 1 : 0);
                due(what + ", edge", b.edge(0, 3), row[0] == OUTAT ? late : -1);
            }
        }
    }

    private static void ticksFarOff() {
        at("OUTAT, INAT, WAIT: the least tick, the greatest tick");
        int[][] timed = {i(OUTAT, 0, 1, 2), i(INAT, 4, 3, 2), i(WAIT, 2)};
        for (int[] row : timed) {
            BarrelSlots b = single();
            b.pin(0, true);
            b.pin(4, false);
            code(b, 0, row, row);
            b.set(0, 2, MIN);
            b.run(1);
            stands("till MIN", b, 0, READY, 1, 0);
            due("late", b.thread(0, 7), row[0] == WAIT ? 0 : 1);
            b.set(0, 2, MAX);
            b.run(200);
            stands("till MAX", b, 0, WAITS, 0, 1);
            due("till", b.thread(0, 6), MAX);
        }
    }

    private static void inputs() {
        at("12 IN: Ry is the PIN x. 13 INAT: the same at the tick Rz");
        BarrelSlots b = single();
        b.pin(4, false);
        b.pin(7, false);
        b.event(7, 0, true);
        b.event(4, 6, true);
        b.event(4, 7, false);
        code(b, 0, i(IN, 7, 0), i(IN, 4, 1), i(INAT, 4, 2, 2), i(INAT, 4, 3, 5), i(HALT));
        for (int r = 0; r < 4; r++) {
            b.set(0, r, 6);
        }
        b.set(0, 5, 7);
        b.run(9);
        due("pin 7", b.register(0, 0), 1);
        due("pin 4", b.register(0, 1), 0);
        due("at 6, over its own Rz", b.register(0, 2), 1);
        due("at 7", b.register(0, 3), 0);
        due("not late", b.thread(0, 7), 0);
    }

    private static void waits() {
        at("THREAD that WAITS till t: several till one tick");
        BarrelSlots b = withTable(0, 1, 2, 3, 4, 5);
        for (int t = 0; t < 6; t++) {
            code(b, t, i(WAIT, 1), i(HALT));
            b.set(t, 1, 8);
        }
        b.run(8);
        for (int t = 0; t < 6; t++) {
            due("waits", b.thread(t, 6), 8);
        }
        b.run(1);
        for (int t = 0; t < 6; t++) {
            // tick 8 is slot 2, whose thread halts in it
            due("state of " + t, b.thread(t, 0), t == 2 ? HALTED : READY);
            due("place of " + t, b.thread(t, 1), t == 2 ? 0 : 1);
        }
    }

    private static void sendersInOrder() {
        at("TAKE: if THREADS SEND there, from the first that came it gets what that has, which is READY");
        BarrelSlots b = withTable(3, 5, 1, 4, 0, 2);
        int[] order = {3, 5, 1, 4, 0};
        for (int t : order) {
            code(b, t, i(SEND, 1, 7), i(HALT));
            b.set(t, 7, 10 * t);
        }
        code(b, 2, i(WAIT, 1), i(TAKE, 1, 0));
        b.set(2, 1, 5);
        b.run(5);
        due("all of them", b.channel(1, 0), 5);
        due("none takes", b.channel(1, 1), 0);
        b.wipe(2);
        code(b, 2, i(TAKE, 1, 0));
        // 2 has each sixth turn
        for (int k = 0; k < 5; k++) {
            due("the first", b.channel(1, 2), order[k]);
            b.run(k == 0 ? 1 : 6);
            due("its value", b.register(2, 0), 10 * order[k]);
            due("ready or on", b.thread(order[k], 0) != SENDS, true);
            due("the others still", b.channel(1, 0), 4 - k);
            due("passed", b.count(12), k + 1);
        }
        due("nobody", b.channel(1, 2), -1);
        b.run(6);
        due("takes now", b.thread(2, 0), TAKES);
    }

    private static void takersInOrder() {
        at("SEND: if THREADS TAKE there, the first that came gets it and is READY");
        BarrelSlots b = withTable(3, 5, 1, 4, 0, 2);
        int[] order = {3, 5, 1, 4, 0};
        for (int t : order) {
            code(b, t, i(TAKE, 2, 6), i(HALT));
        }
        code(b, 2, i(SEND, 2, 0), i(ADD, 0, 0, 1), i(HALT));
        b.set(2, 0, 70);
        b.set(2, 1, 1);
        b.run(5);
        due("all of them", b.channel(2, 1), 5);
        due("none sends", b.channel(2, 0), 0);
        b.run(1);
        due("the first has it", b.register(3, 6), 70);
        due("the second not", b.register(5, 6), 0);
        due("the sender is ready", b.thread(2, 0), READY);
        due("the taker is ready", b.thread(3, 0), READY);
        due("the next is first", b.channel(2, 2), 5);
        b.wipe(1);
        b.wipe(2);
        code(b, 2, i(SEND, 2, 0), i(SEND, 2, 1), i(SEND, 2, 2), i(SEND, 2, 3), i(HALT));
        b.set(2, 2, 72);
        b.run(18);
        due("the second", b.register(5, 6), 70);
        due("not the wiped one", b.register(1, 6), 0);
        due("the fourth", b.register(4, 6), 1);
        due("the last", b.register(0, 6), 72);
        due("passed", b.count(12), 4);
        b.run(6);
        due("nobody takes: it sends", b.thread(2, 0), SENDS);
        due("one sends", b.channel(2, 0), 1);
    }

    private static void asInThatTurn() {
        at("What OUTAT writes, SEND gives is Ry as it is in that TURN, also if it is written, taken later");
        BarrelSlots b = withTable(0, 1, 2);
        b.pin(0, true);
        code(b, 0, i(OUTAT, 0, 1, 2), i(HALT));
        code(b, 1, i(SEND, 0, 1), i(HALT));
        code(b, 2, i(WAIT, 2), i(TAKE, 0, 1), i(HALT));
        b.set(0, 1, 1);
        b.set(0, 2, 6);
        b.set(1, 1, 55);
        b.set(2, 2, 5);
        b.run(3);
        b.set(0, 1, 0);
        b.set(0, 2, 100);
        b.set(1, 1, 56);
        due("till the tick as it was, too", b.thread(0, 6), 6);
        b.run(4);
        due("written", b.level(0, 0), 1);
        due("taken", b.register(2, 1), 55);
        due("the sender's own stays", b.register(1, 1), 56);
    }

    private static int ratio(int a, int b) {
        return computed(RATIO, a, b);
    }

    private static void ratios() {
        at("19 RATIO: the bits of Ry divided by Rz as single-precision floats");
        due("0 by 0", ratio(0, 0), 0x7fc00000);
        due("1 by 0", ratio(1, 0), 0x7f800000);
        due("MAX by 0", ratio(MAX, 0), 0x7f800000);
        due("-1 by 0", ratio(-1, 0), 0xff800000);
        due("MIN by 0", ratio(MIN, 0), 0xff800000);
        due("0 by 1", ratio(0, 1), 0);
        due("0 by -1", ratio(0, -1), 0x80000000);
        due("0 by MIN", ratio(0, MIN), 0x80000000);
        due("1 by 1", ratio(1, 1), 0x3f800000);
        due("-1 by 1", ratio(-1, 1), 0xbf800000);
        due("1 by 3", ratio(1, 3), 0x3eaaaaab);
        due("2 by 3", ratio(2, 3), 0x3f2aaaab);
        due("1 by MIN, the least", ratio(1, MIN), 0xb0000000);
        due("MIN by 1, the greatest", ratio(MIN, 1), 0xcf000000);
        due("MAX by 1 is rounded up", ratio(MAX, 1), 0x4f000000);
        due("MIN by -1", ratio(MIN, -1), 0x4f000000);
        due("16777217 is rounded to 16777216", ratio(16777217, 1), 0x4b800000);
        due("16777219 is rounded to 16777220", ratio(16777219, 1), 0x4b800002);
        due("8388608 by 1", ratio(8388608, 1), 0x4b000000);
        due("8388607 by 1", ratio(8388607, 1), 0x4afffffe);
    }

    private static int part(int a, int b) {
        return computed(PART, a, b);
    }

    private static void parts() {
        at("20 PART: Ry times Rz, divided by 1024, in single-precision floats, from the left, cut to an int as a cast does");
        due("1023 / 1024", part(1023, 1), 0);
        due("1024 / 1024", part(1024, 1), 1);
        due("-1023 / 1024", part(-1023, 1), 0);
        due("-1024 / 1024", part(1024, -1), -1);
        due("-2047 / 1024", part(-2047, 1), -1);
        due("0 times MIN", part(0, MIN), 0);
        due("MIN times MIN", part(MIN, MIN), MAX);
        due("MIN times MAX", part(MIN, MAX), MIN);
        due("MAX times 1024", part(MAX, 1024), MAX);
        due("MIN times 1024", part(MIN, 1024), MIN);
        due("MIN times -1024", part(MIN, -1024), MAX);
        due("16777217 as a float", part(16777217, 1024), 16777216);
        due("16777219 as a float", part(16777219, 1024), 16777220);
        // 4097 * 4097 = 16785409, which no float is: 16785408
        due("the product is a float", part(4097, 4097), 16392);
        // 16777215 * 3 = 50331645 is rounded to 50331644, by 1024: 49151.996
        due("the product is a float", part(16777215, 3), 49151);
        // 33554431 * 33 is 1107296223 in ints, 33554432 * 33 = 1107296256 in floats: 1081344 * 1024
        due("each is a float first", part(33554431, 33), 1081344);
    }

    private static BarrelSlots trapBy(int cells, int[] row, int v) {
        BarrelSlots b = single();
        b.memory(0, cells);
        b.set(0, 1, v);
        b.set(0, 2, 5);
        code(b, 0, row);
        b.run(1);
        return b;
    }

    private static void trapsOfMemory() {
        at("TRAPPED by (the lowest): 1 LOAD, STORE without a MEMORY; 2 outside of it");
        int[] values = {0, -1, 16, MIN, MAX};
        for (int kind = LOAD; kind <= STORE; kind++) {
            int[] row = i(kind, 2, 1);
            for (int v : values) {
                due("no memory, cell " + v, trapBy(-1, row, v).thread(0, 2), 1);
                due("of no cells, cell " + v, trapBy(0, row, v).thread(0, 2), 2);
                due("of one cell, cell " + v, trapBy(1, row, v).thread(0, 2), v == 0 ? 0 : 2);
                due("of 16, cell " + v, trapBy(16, row, v).thread(0, 2), v == 0 ? 0 : 2);
            }
            due("the last of 16", trapBy(16, row, 15).thread(0, 2), 0);
            due("the last of 3", trapBy(3, row, 2).thread(0, 2), 0);
            due("behind the last of 3", trapBy(3, row, 3).thread(0, 2), 2);
            due("Rx stays", trapBy(3, row, 3).register(0, 2), 5);
        }
        BarrelSlots less = single();
        less.memory(0, 16);
        less.set(0, 1, 8);
        code(less, 0, i(LOAD, 2, 1));
        less.run(1);
        less.memory(0, 8);
        less.run(1);
        due("it has fewer by now", less.thread(0, 2), 2);
    }

    private static void trapsOfPins() {
        at("TRAPPED by: 3 a PIN that is none, IN of an OUT one, OUT, OUTAT of an IN one, INAT likewise");
        int[][] rows = {i(OUT, 1, 1), i(OUTAT, 1, 1, 2), i(IN, 1, 1), i(INAT, 1, 1, 2)};
        for (int[] row : rows) {
            boolean writes = row[0] == OUT || row[0] == OUTAT;
            for (int kind = 0; kind <= 2; kind++) {
                for (int tick = 0; tick <= 2; tick++) {
                    BarrelSlots b = single();
                    if (kind < 2) {
                        b.pin(1, kind == 1);
                        b.pin(0, kind == 1);
                    } else {
                        // its bank has a kind, the pin itself has none
                        b.pin(0, writes);
                    }
                    code(b, 0, i(SET), row, i(HALT));
                    b.set(0, 2, tick);
                    b.run(2);
                    boolean fits = kind == (writes ? 1 : 0);
                    due("row of " + row[0] + " on " + kind + " at " + tick, b.thread(0, 2), fits ? 0 : 3);
                    due("late", b.thread(0, 7), fits && tick < 1 && (row[0] == OUTAT || row[0] == INAT) ? 1 : 0);
                }
            }
        }
    }

    /** Thread 0 waits till tick 9 with a row of its own; then thread 1 does another. */
    private static BarrelSlots claimed(int[] first, int[] second, int tick) {
        BarrelSlots b = withTable(0, 1);
        b.pin(0, true);
        b.pin(1, true);
        b.pin(4, false);
        b.set(0, 1, 1);
        b.set(0, 2, 9);
        b.set(1, 2, tick);
        code(b, 0, first, i(HALT));
        code(b, 1, i(SET), second, i(HALT));
        b.run(4);
        return b;
    }

    private static void trapsOfClaims() {
        at("TRAPPED by: 4 OUTAT to a PIN for which another THREAD WAITS with an OUTAT");
        int[] outat = i(OUTAT, 0, 1, 2);
        int[] ticks = {MIN, 2, 3, 4, 8, 9, 10, MAX};
        for (int tick : ticks) {
            BarrelSlots b = claimed(outat, outat, tick);
            stands("till " + tick, b, 1, TRAPPED, 1, 0);
            due("by", b.thread(1, 2), 4);
            due("late", b.count(8), 0);
            due("the first waits on", b.thread(0, 6), 9);
            b.run(6);
            due("and writes", b.level(0, 0), 1);
        }
        due("to another pin", claimed(outat, i(OUTAT, 1, 1, 2), 9).thread(1, 2), 0);
        due("by OUT", claimed(outat, i(OUT, 0, 1), 9).thread(1, 2), 0);
        due("that waits by WAIT", claimed(i(WAIT, 2), outat, 9).thread(1, 2), 0);
        due("that waits by INAT", claimed(i(INAT, 4, 3, 2), i(INAT, 4, 3, 2), 9).thread(1, 2), 0);
        due("the lowest", claimed(outat, i(OUTAT, 4, 1, 2), 9).thread(1, 2), 3);
    }

    private static void claimsOver() {
        at("4 .. for which another THREAD WAITS: not any more");
        BarrelSlots b = withTable(0, 1);
        b.pin(0, true);
        code(b, 0, i(OUTAT, 0, 1, 2), i(WAIT, 3), i(HALT));
        code(b, 1, i(WAIT, 2), i(OUTAT, 0, 1, 3), i(HALT));
        b.set(0, 2, 3);
        b.set(0, 3, 40);
        b.set(1, 2, 3);
        b.set(1, 3, 20);
        b.run(4);
        due("in the tick in which the first wrote", b.thread(1, 0), WAITS);
        BarrelSlots c = claimed(i(OUTAT, 0, 1, 2), i(WAIT, 3), 9);
        c.wipe(0);
        c.wipe(1);
        code(c, 1, i(OUTAT, 0, 1, 2));
        c.run(2);
        due("the first was wiped", c.thread(1, 2), 0);
        due("nothing was written", c.count(6), 0);
    }

    private static void trapStops() {
        at("A THREAD is TRAPPED, at that PLACE");
        BarrelSlots b = single();
        b.hard(1, false);
        code(b, 0, i(SET), i(LOAD, 0, 0));
        code(b, 1, i(SET));
        due("the trapped one counts", b.run(2), 2);
        stands("at the last", b, 0, TRAPPED, 1, 0);
        due("done", b.thread(0, 3), 2);
        b.run(3);
        due("does nothing more", b.thread(0, 3), 2);
        due("its turns are given", b.thread(1, 4), 3);
        b.memory(0, 1);
        b.run(1);
        due("not freed by a memory", b.thread(0, 0), TRAPPED);
        b.tell(0, SET, 0, 0, 0);
        b.set(0, 0, 0);
        b.run(1);
        stands("nor by more code", b, 0, TRAPPED, 1, 0);
    }

    private static void edges() {
        at("EDGES: each time an OUT PIN is written and is another one then");
        BarrelSlots b = single();
        b.pin(0, true);
        b.pin(3, true);
        b.pin(4, false);
        b.event(4, 1, true);
        code(b, 0, i(OUT, 0, 0), i(OUT, 0, 1), i(OUT, 0, 1), i(OUT, 3, 1), i(OUT, 0, 0), i(HALT));
        b.set(0, 1, 1);
        b.run(1);
        due("0 to 0 is none", b.count(6), 0);
        due("none such", b.edge(0, 0), -1);
        b.run(1);
        due("0 to 1", b.count(6), 1);
        isEdge(b, 0, 1, 0, 1, 0);
        due("none such", b.edge(1, 0), -1);
        b.run(1);
        due("1 to 1 is none", b.count(6), 1);
        b.run(2);
        due("in all, the event is none", b.count(6), 3);
        isEdge(b, 0, 4, 0, 0, 0);
        isEdge(b, 1, 3, 3, 1, 0);
        isEdge(b, 2, 1, 0, 1, 0);
    }

    private static void latestEdges() {
        at("the latest 40, the latest first");
        BarrelSlots b = single();
        b.pin(2, true);
        code(b, 0, i(OUT, 2, 1), i(ADD, 1, 1, 2));
        b.set(0, 1, 1);
        b.set(0, 2, 1);
        // an edge in each even tick
        b.run(77);
        due("39", b.count(6), 39);
        due("no 40th", b.edge(39, 0), -1);
        b.run(2);
        due("40", b.count(6), 40);
        due("the first", b.edge(39, 0), 0);
        b.run(2);
        due("40 still", b.count(6), 40);
        for (int k = 0; k < 40; k++) {
            isEdge(b, k, 80 - 2 * k, 2, k % 2 == 0 ? 1 : 0, 0);
        }
        due("none such", b.edge(40, 0), -1);
        b.run(200);
        due("more than twice round", b.edge(0, 0), 280);
        due("the oldest", b.edge(39, 0), 202);
    }

    private static void lateEdges() {
        at("whether that was LATE (1, 0)");
        BarrelSlots b = single();
        b.pin(0, true);
        code(b, 0, i(OUTAT, 0, 1, 2), i(OUTAT, 0, 1, 2), i(OUTAT, 0, 3, 4), i(OUT, 0, 1), i(OUTAT, 0, 3, 5), i(HALT));
        b.set(0, 1, 1);
        b.set(0, 2, -1);
        b.set(0, 4, 2);
        b.set(0, 5, 7);
        b.run(9);
        due("late ones, of which one changed nothing", b.thread(0, 7), 2);
        due("edges", b.count(6), 4);
        isEdge(b, 3, 0, 0, 1, 1);
        isEdge(b, 2, 2, 0, 0, 0);
        isEdge(b, 1, 3, 0, 1, 0);
        isEdge(b, 0, 7, 0, 0, 0);
    }
}
