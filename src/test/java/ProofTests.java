/** Term 3 of the document: what is proved, found, started anew and foretold, at each boundary and beside it. */
public final class ProofTests extends Check {
    private static final int[] FILLER = {SET, 0, 0, 0};

    public static void main(String[] args) {
        plainKinds();
        plainLeaps();
        plainLoops();
        leapsOutOfLoops();
        leapsIntoLoops();
        ways();
        waysOfLoops();
        unreachable();
        capOfInstructions();
        capOfTurns();
        leastWithinMostBeyond();
        spans();
        spansOfManyTurns();
        spansOfAFullTable();
        safe();
        safeAtTheGreatestDue();
        sumOfGaps();
        foundTables();
        equalLimits();
        foundPeriods();
        foundTicks();
        foundWithout();
        started();
        startedAmongStates();
        startedTurns();
        foretoldChangesNothing();
        foretoldByWhatIsTold();
        foretoldFromWhatIs();
        end("all boundaries of term 3 hold");
    }

    private static BarrelSlots of(int[]... rows) {
        BarrelSlots b = single();
        code(b, 0, rows);
        return b;
    }

    private static void isPlain(String what, int want, int[]... rows) {
        BarrelSlots b = of(rows);
        due(what, b.bound(0, 0), want);
        for (int k = 1; k <= 4; k++) {
            due(what + " has bound " + k, b.bound(0, k) != -1, want == 1);
        }
    }

    private static void plainKinds() {
        at("PLAIN is a CODE (not an empty one): INSTRUCTIONS 0 to 10, 12, 15, 19, 20 alone");
        isPlain("empty", 0);
        int[] plain = {1, 1, 1, 1, 1, 1, 1, 1, 1, 1, 1, 0, 1, 0, 0, 1, 0, 0, 0, 1, 1};
        for (int kind = 0; kind <= 20; kind++) {
            int[] row = i(kind, 0, kind == JUMP || kind == BRANCH ? 2 : 0);
            isPlain("alone " + kind, plain[kind], row);
            isPlain("first " + kind, plain[kind], row, FILLER);
            isPlain("last " + kind, plain[kind], FILLER, row);
        }
        BarrelSlots b = of(FILLER);
        due("had", b.wipe(0), 1);
        due("wiped", b.bound(0, 0), 0);
        int[][] full = new int[24][];
        for (int place = 0; place < 24; place++) {
            full[place] = FILLER;
        }
        isPlain("a full one", 1, full);
        full[23] = i(HALT);
        isPlain("a full one whose last is not", 0, full);
        due("by a kind that no way leads to", of(i(JUMP, 0, 2), i(HALT), FILLER).bound(0, 0), 0);
    }

    private static void plainLeaps() {
        at("JUMP and BRANCH to PLACES behind their own");
        for (int kind = JUMP; kind <= BRANCH; kind++) {
            for (int y = 0; y < 24; y++) {
                isPlain("from 1 of three to " + y, y > 1 ? 1 : 0, FILLER, i(kind, 0, y), FILLER);
            }
            int[][] full = new int[24][];
            for (int place = 0; place < 24; place++) {
                full[place] = FILLER;
            }
            full[23] = i(kind, 0, 23);
            isPlain("from 23 to 23", 0, full);
            full[23] = FILLER;
            full[22] = i(kind, 0, 23);
            isPlain("from 22 to 23", 1, full);
        }
    }

    /** Eight places, with loops from one to another; -1 for no second one. */
    private static int[][] looped(int first, int last, int secondFirst, int secondLast) {
        int[][] rows = new int[8][];
        for (int place = 0; place < 8; place++) {
            rows[place] = place == last ? i(LOOP, 1, first) : place == secondLast ? i(LOOP, 1, secondFirst) : FILLER;
        }
        return rows;
    }

    private static void plainLoops() {
        at("of each two LOOPS one within the other or both apart");
        // the first one is of the places 2 to 5
        int[][] tries = {
            {0, 0, 1}, {0, 1, 1}, {1, 1, 1}, {6, 6, 1}, {6, 7, 1}, {7, 7, 1},
            {2, 2, 1}, {2, 3, 1}, {2, 4, 1}, {3, 4, 1}, {4, 4, 1},
            {2, 6, 1}, {1, 6, 1}, {0, 7, 1}, {2, 7, 1},
            {0, 2, 0}, {1, 3, 0}, {1, 4, 0}, {0, 4, 0}, {3, 6, 0}, {5, 6, 0}, {5, 7, 0}, {3, 7, 0},
        };
        for (int[] t : tries) {
            isPlain("2 to 5 and " + t[0] + " to " + t[1], t[2], looped(2, 5, t[0], t[1]));
        }
        isPlain("three within one another", 1, FILLER, i(LOOP, 1, 1), i(LOOP, 1, 1), i(LOOP, 1, 0));
        isPlain("the third crosses the first", 0, FILLER, i(LOOP, 1, 0), FILLER, i(LOOP, 1, 3), i(LOOP, 1, 1));
        isPlain("of 0 times, too", 0, FILLER, i(LOOP, 0, 0), i(LOOP, 0, 1));
    }

    private static void leapsOutOfLoops() {
        at("no JUMP, BRANCH from within a LOOP to beyond its last PLACE");
        for (int kind = JUMP; kind <= BRANCH; kind++) {
            // the loop is of the places 2 to 5 of eight
            for (int from = 0; from < 8; from++) {
                if (from == 5) {
                    continue;
                }
                for (int to = from + 1; to < 24; to++) {
                    int[][] rows = looped(2, 5, -1, -1);
                    rows[from] = i(kind, 0, to);
                    boolean leaves = from >= 2 && from < 5 && to > 5;
                    boolean enters = from < 2 && to > 2 && to <= 5;
                    isPlain("from " + from + " to " + to, leaves || enters ? 0 : 1, rows);
                }
            }
        }
        isPlain("out of the inner one alone", 0, i(BRANCH, 0, 2), i(LOOP, 1, 0), FILLER, i(LOOP, 1, 0));
        isPlain("beyond the code's end", 0, i(BRANCH, 0, 23), i(LOOP, 1, 0));
    }

    private static void leapsIntoLoops() {
        at("or from outside of it to a PLACE within behind its first");
        isPlain("to its first", 1, i(JUMP, 0, 1), FILLER, i(LOOP, 1, 1));
        isPlain("behind its first", 0, i(JUMP, 0, 2), FILLER, i(LOOP, 1, 1), FILLER);
        isPlain("over it", 1, i(JUMP, 0, 3), FILLER, i(LOOP, 1, 1), FILLER);
        isPlain("to one of one place", 1, i(JUMP, 0, 2), FILLER, i(LOOP, 1, 2));
        isPlain("within the outer, to the inner's first", 1, i(BRANCH, 0, 2), FILLER, FILLER, i(LOOP, 1, 2), i(LOOP, 1, 0));
        isPlain("within the outer, behind the inner's first", 0, i(BRANCH, 0, 3), FILLER, FILLER, i(LOOP, 1, 2), i(LOOP, 1, 0));
        isPlain("from the inner's first to its last", 1, i(BRANCH, 0, 1), i(LOOP, 1, 0));
    }

    private static void isBound(String what, int least, int most, int[]... rows) {
        BarrelSlots b = of(rows);
        due(what + ", least", b.bound(0, 1), least);
        due(what + ", most", b.bound(0, 2), most);
        // thread 0 has each tick
        due(what + ", best", b.bound(0, 3), least > 100000 ? -1 : least);
        due(what + ", worst", b.bound(0, 4), most > 100000 ? -1 : most);
    }

    private static void ways() {
        at("LEAST, MOST of it: INSTRUCTIONS of a ROUND, by whichever ways BRANCHES go");
        isBound("one", 1, 1, FILLER);
        isBound("a branch to the next", 2, 2, i(BRANCH, 0, 1), FILLER);
        isBound("a branch over one", 2, 3, i(BRANCH, 0, 2), FILLER, FILLER);
        isBound("a branch behind the last", 1, 3, i(BRANCH, 0, 3), FILLER, FILLER);
        isBound("a branch far behind the last", 1, 3, i(BRANCH, 0, 23), FILLER, FILLER);
        isBound("a branch as the last", 2, 2, FILLER, i(BRANCH, 0, 2));
        isBound("a jump to the next", 3, 3, FILLER, i(JUMP, 0, 2), FILLER);
        isBound("a jump behind the last", 1, 1, i(JUMP, 0, 2), FILLER);
        isBound("either of two ways", 3, 5, i(BRANCH, 0, 5), FILLER, FILLER, FILLER, i(JUMP, 0, 7), FILLER, FILLER);
        isBound("two branches", 2, 5, i(BRANCH, 0, 4), FILLER, i(BRANCH, 0, 4), FILLER, FILLER);
    }

    private static void waysOfLoops() {
        at("by whichever ways BRANCHES go (each time anew)");
        for (int x = 0; x <= 7; x++) {
            isBound("a loop of itself, " + x, x + 1, x + 1, i(LOOP, x, 0));
            isBound("a body of 1 or 2, " + x, 2 * (x + 1), 3 * (x + 1), i(BRANCH, 0, 2), FILLER, i(LOOP, x, 0));
        }
        isBound("a branch over a loop", 2, 2 + 2 * 8, i(BRANCH, 0, 3), FILLER, i(LOOP, 7, 1), FILLER);
        isBound("a loop in a loop, over which one may go", 2 * 3, 2 * (3 + 4), i(BRANCH, 0, 3), FILLER, i(LOOP, 1, 1), FILLER,
            i(LOOP, 1, 0));
        isBound("from the same first", 3 * (2 * 2 + 1), 3 * (2 * 2 + 1), FILLER, i(LOOP, 1, 0), i(LOOP, 2, 0));
        isBound("two apart", 2 * 2 + 3 * 2, 2 * 2 + 3 * 2, FILLER, i(LOOP, 1, 0), FILLER, i(LOOP, 2, 2));
    }

    private static void unreachable() {
        at("INSTRUCTIONS of a ROUND: those that no way leads to are none");
        isBound("behind a jump", 2, 2, i(JUMP, 0, 3), FILLER, FILLER, FILLER);
        isBound("a loop behind a jump", 2, 2, i(JUMP, 0, 3), FILLER, i(LOOP, 7, 1), FILLER);
        isBound("within a loop", 3 * 2, 3 * 2, i(JUMP, 0, 2), FILLER, i(LOOP, 2, 0));
        isBound("a branch behind a jump", 2, 2, i(JUMP, 0, 3), i(BRANCH, 0, 4), FILLER, FILLER);
    }

    private static void capOfInstructions() {
        at("LEAST, MOST of more than 999999: 999999");
        // 5 | 6*6 = 36 | 7*37 = 259 | 5*260 = 1300 | 2*1301 = 2602 | 2603 | 8*2604 | 4*20833 | 6*83333 | 2*499999
        BarrelSlots b = of(FILLER, FILLER, FILLER, FILLER, FILLER, i(LOOP, 5, 0), i(LOOP, 6, 0), i(LOOP, 4, 0), i(LOOP, 1, 0),
            FILLER, i(LOOP, 7, 0), i(LOOP, 3, 0), i(LOOP, 5, 0), i(LOOP, 1, 0));
        for (int k = 0; k < 4; k++) {
            due("least", b.bound(0, 1), k == 0 ? 999998 : 999999);
            due("most", b.bound(0, 2), k == 0 ? 999998 : 999999);
            due("best", b.bound(0, 3), -1);
            due("worst", b.bound(0, 4), -1);
            due("plain", b.bound(0, 0), 1);
            b.tell(0, SET, 0, 0, 0);
        }
        int[][] deep = new int[24][];
        for (int place = 0; place < 24; place++) {
            deep[place] = i(LOOP, 7, 0);
        }
        isBound("8 to the 24th and more", 999999, 999999, deep);
        // a short way beside one beyond the cap
        deep[0] = i(BRANCH, 0, 23);
        for (int place = 1; place < 23; place++) {
            deep[place] = i(LOOP, 7, 1);
        }
        deep[23] = FILLER;
        isBound("over it or through it", 2, 999999, deep);
    }

    private static void capOfTurns() {
        at("of 3, 4: more than 100000 TURNS");
        // 5 | 7*6 = 42 | 4*43 = 172 | 2*173 = 346 | 6*347 = 2082 | 6*2083 = 12498 | 12499 | 8*12500
        BarrelSlots b = of(FILLER, FILLER, FILLER, FILLER, FILLER, i(LOOP, 6, 0), i(LOOP, 3, 0), i(LOOP, 1, 0), i(LOOP, 5, 0),
            i(LOOP, 5, 0), FILLER, i(LOOP, 7, 0));
        due("most", b.bound(0, 2), 100000);
        due("best", b.bound(0, 3), 100000);
        due("worst", b.bound(0, 4), 100000);
        b.slots(16);
        due("best of a slot of 16", b.bound(0, 3), 99999 * 16 + 1);
        due("worst of a slot of 16", b.bound(0, 4), 100000 * 16);
        b.tell(0, SET, 0, 0, 0);
        due("one more", b.bound(0, 1), 100001);
        due("best", b.bound(0, 3), -1);
        due("worst", b.bound(0, 4), -1);
    }

    private static void leastWithinMostBeyond() {
        at("3: BEST of LEAST TURNS, 4: WORST of MOST TURNS .. of 3, 4: more than 100000 TURNS");
        // 5 | 42 | 172 | 346 | 2082 | 4*2083 = 8332 | 4*8333 = 33332 | 3*33333 = 99999 | 1 or 2 more
        BarrelSlots b = of(FILLER, FILLER, FILLER, FILLER, FILLER, i(LOOP, 6, 0), i(LOOP, 3, 0), i(LOOP, 1, 0), i(LOOP, 5, 0),
            i(LOOP, 3, 0), i(LOOP, 3, 0), i(LOOP, 2, 0), i(BRANCH, 0, 14), FILLER);
        due("least", b.bound(0, 1), 100000);
        due("most", b.bound(0, 2), 100001);
        due("best", b.bound(0, 3), 100000);
        due("worst", b.bound(0, 4), -1);
        at("of 3, 4: no SLOT");
        b.slot(0, 1);
        due("least", b.bound(0, 1), 100000);
        due("best", b.bound(0, 3), -1);
        due("worst", b.bound(0, 4), -1);
    }

    private static void isSpan(BarrelSlots b, int thread, int turns, int best, int worst) {
        due("best of " + turns, b.span(thread, turns, 0), best);
        due("worst of " + turns, b.span(thread, turns, 1), worst);
    }

    private static void spans() {
        at("SPAN of k TURNS: over all SLOTS from which one may begin .. the ticks till k SLOTS of its own have gone by");
        BarrelSlots b = withTable(-1, 0, 0, 1);
        isSpan(b, 0, 1, 1, 3);
        isSpan(b, 0, 2, 2, 4);
        isSpan(b, 0, 3, 5, 7);
        isSpan(b, 0, 4, 6, 8);
        isSpan(b, 1, 1, 1, 4);
        isSpan(b, 1, 2, 5, 8);
        isSpan(b, 2, 1, -1, -1);
        b.slots(3);
        isSpan(b, 1, 1, -1, -1);
        isSpan(b, 0, 1, 1, 2);
        isSpan(b, 0, 2, 2, 3);
        // as first and last of the table: the run of two goes over its end
        BarrelSlots over = withTable(0, -1, -1, 0);
        isSpan(over, 0, 1, 1, 3);
        isSpan(over, 0, 2, 2, 4);
        over.run(2);
        isSpan(over, 0, 2, 2, 4);
    }

    private static void spansOfManyTurns() {
        at("SPAN of k TURNS (1 to 100000)");
        BarrelSlots b = withTable(0, 1, 1);
        isSpan(b, 0, 0, -1, -1);
        isSpan(b, 0, -1, -1, -1);
        isSpan(b, 0, MIN, -1, -1);
        isSpan(b, 0, MAX, -1, -1);
        isSpan(b, 0, 100001, -1, -1);
        isSpan(b, 0, 1, 1, 3);
        isSpan(b, 0, 99999, 99998 * 3 + 1, 99999 * 3);
        isSpan(b, 0, 100000, 99999 * 3 + 1, 100000 * 3);
        isSpan(b, 1, 100000, 49999 * 3 + 2, 50000 * 3);
        isSpan(b, 1, 99999, 49999 * 3 + 1, 49999 * 3 + 2);
        BarrelSlots wide = new BarrelSlots();
        wide.slots(16);
        wide.slot(15, 5);
        isSpan(wide, 5, 100000, 99999 * 16 + 1, 100000 * 16);
    }

    private static void spansOfAFullTable() {
        at("SPAN: all SLOTS its own, one of 16");
        BarrelSlots b = withTable(3, 3, 3, 3, 3, 3, 3, 3, 3, 3, 3, 3, 3, 3, 3, 3);
        for (int k = 1; k <= 33; k += 16) {
            isSpan(b, 3, k, k, k);
            isSpan(b, 3, k + 14, k + 14, k + 14);
        }
        b.slot(7, -1);
        isSpan(b, 3, 15, 15, 16);
        isSpan(b, 3, 1, 1, 2);
        isSpan(b, 3, 16, 17, 18);
    }

    private static void safe() {
        at("SAFE: a THREAD that is HARD, has a PLAIN CODE, a SLOT, and a DUE of WORST of MOST TURNS at least");
        BarrelSlots b = withTable(-1, 5, -1);
        code(b, 5, i(BRANCH, 0, 2), FILLER, FILLER);
        // most is 3, from behind its slot: 9 ticks; least is 2
        due("worst", b.bound(5, 4), 9);
        int[] dues = {0, 1, 8, 9, 10, 9999};
        for (int ticks : dues) {
            b.due(5, ticks);
            due("due " + ticks, b.bound(5, 5), ticks >= 9 ? 1 : 0);
            due("bits", b.count(11), ticks >= 9 ? 32 : 0);
        }
        b.hard(5, false);
        due("soft", b.bound(5, 5), 0);
        b.hard(5, true);
        due("hard again", b.bound(5, 5), 1);
        b.slot(1, 4);
        due("no slot", b.bound(5, 5), 0);
        due("bits", b.count(11), 0);
        b.slot(2, 5);
        due("a slot again", b.bound(5, 5), 1);
        b.tell(5, WAIT, 0, 0, 0);
        due("not plain", b.bound(5, 5), 0);
        b.wipe(5);
        due("no code", b.bound(5, 5), 0);
        at("11: that are SAFE, as bits");
        BarrelSlots all = withTable(0, 1, 2, 3, 4, 5);
        for (int t = 0; t < 6; t++) {
            code(all, t, FILLER);
            all.due(t, 6);
            due("bits", all.count(11), (2 << t) - 1);
        }
    }

    private static void safeAtTheGreatestDue() {
        at("a DUE (1 to 9999) of WORST of MOST TURNS at least");
        // 10 | 2*11 = 22 | 2*23 = 46 | 2*47 = 94 | 5*95 = 475 | 7*476 = 3332 | 3*3333 = 9999
        BarrelSlots b = of(FILLER, FILLER, FILLER, FILLER, FILLER, FILLER, FILLER, FILLER, FILLER, FILLER, i(LOOP, 1, 0),
            i(LOOP, 1, 0), i(LOOP, 1, 0), i(LOOP, 4, 0), i(LOOP, 6, 0), i(LOOP, 2, 0));
        due("worst", b.bound(0, 4), 9999);
        b.due(0, 9998);
        due("one less", b.bound(0, 5), 0);
        b.due(0, 9999);
        due("the greatest", b.bound(0, 5), 1);
        b.tell(0, SET, 0, 0, 0);
        due("worst", b.bound(0, 4), 10000);
        due("no due is enough", b.bound(0, 5), 0);
        BarrelSlots one = of(FILLER);
        one.due(0, 1);
        due("the least", one.bound(0, 5), 1);
    }

    private static BarrelSlots asking(int... gaps) {
        BarrelSlots b = withTable(5, -1, 2);
        for (int t = 0; t < gaps.length; t++) {
            b.asks(t, gaps[t]);
        }
        return b;
    }

    private static void isFound(int want, int... gaps) {
        BarrelSlots b = asking(gaps);
        due("found of " + java.util.Arrays.toString(gaps), b.found(), want);
        if (want != 0) {
            isTable(b, 5, -1, 2);
        }
        for (int t = 0; t < gaps.length; t++) {
            due("asked stays", b.thread(t, 12), gaps[t]);
        }
    }

    private static void sumOfGaps() {
        at("REFUSED 1: the sum of all 1 / GAP is above 1");
        isFound(0, 1);
        isFound(0, 0, 0, 0, 0, 0, 1);
        isFound(1, 1, 16);
        isFound(1, 16, 0, 0, 0, 0, 1);
        isFound(0, 2, 2);
        isFound(1, 2, 2, 16);
        isFound(0, 3, 3, 3);
        isFound(1, 3, 3, 3, 16);
        isFound(0, 6, 6, 6, 6, 6, 6);
        isFound(1, 5, 6, 6, 6, 6, 6);
        isFound(0, 5, 5, 5, 5, 5);
        isFound(1, 5, 5, 5, 5, 5, 16);
        isFound(1, 1, 1, 1, 1, 1, 1);
        // exactly 1, and refused for another reason
        isFound(2, 2, 3, 6);
        isFound(2, 2, 4, 4);
        // 41/42 and 1/16; 13/14 and 1/13, which is above by 1/182
        isFound(1, 2, 3, 7, 16);
        isFound(1, 2, 7, 7, 7, 13);
        // the least that is above, by 1/2310; the greatest that is below, by 1/5040; 1 that doubles would take for more
        isFound(1, 0, 2, 5, 7, 11, 15);
        isFound(2, 2, 7, 9, 10, 12, 16);
        isFound(2, 2, 9, 9, 9, 12, 12);
    }

    private static void foundTables() {
        at("the TABLE is of the SLOTS from that t on, up to the one ahead of this");
        BarrelSlots one = asking(0, 0, 0, 16);
        due("one of 16", one.found(), 0);
        isTable(one, 3);
        BarrelSlots two = asking(0, 2, 2);
        due("two of 2", two.found(), 0);
        // less t: (2, 2) 1 | (2, 1) 2 | (1, 2) 1 | (2, 1) as 2 ago
        isTable(two, 2, 1);
        BarrelSlots three = asking(3, 0, 2);
        due("3 and 2", three.found(), 0);
        // less t: (3, 2) 2 | (2, 2) 0 | (3, 1) 2 | (2, 2) as 2 ago
        isTable(three, 0, 2);
        // the table asked for is one that serves: the turns come by it
        code(three, 0, i(CLOCK, 0));
        three.run(1);
        due("its turn", three.thread(0, 3), 1);
        due("spare ones", three.count(2), 0);
    }

    private static void equalLimits() {
        at("of equal ones the lowest");
        BarrelSlots b = asking(6, 6, 6, 6, 6, 6);
        due("six of 6", b.found(), 0);
        // less t: (6, 6, 6, 6, 6, 6) 0 | (6, 5, 5, 5, 5, 5) 1 | (5, 6, 4, 4, 4, 4) 2 | (4, 5, 6, 3, 3, 3) 3 |
        // (3, 4, 5, 6, 2, 2) 4 | (2, 3, 4, 5, 6, 1) 5 | (1, 2, 3, 4, 5, 6) 0 | .. | (2, 3, 4, 5, 6, 1) as 6 ago
        isTable(b, 5, 0, 1, 2, 3, 4);
        at("if the least LIMIT is t or less, REFUSED 2");
        // less t: (2, 4, 4) 0 | (2, 3, 3) 0 | (2, 2, 2) 0 | (2, 1, 1) 1 | (1, 4, 0): its limit is t
        isFound(2, 2, 4, 4);
        // less t: (4, 4, 2) 2 | (3, 3, 2) 2 | (2, 2, 2) 0 | (4, 1, 1) 1 | (3, 4, 0)
        isFound(2, 4, 4, 2);
        // less t: (3, 3, 3) 0 | (3, 2, 2) 1 | (2, 3, 1) 2 | (1, 2, 3) 0 | (3, 1, 2) 1 | (2, 3, 1) as 3 ago
        BarrelSlots c = asking(3, 3, 3);
        due("a limit of t + 1", c.found(), 0);
        isTable(c, 2, 0, 1);
    }

    private static void foundPeriods() {
        at("at an earlier t, 16 ago at most");
        BarrelSlots b = asking(0, 0, 0, 0, 2, 16);
        due("16 ago", b.found(), 0);
        // 4 while its t + 2 is not above 16, at 15 the other, at 16 (1, 16), at 17 as at 1
        isTable(b, 4, 4, 4, 4, 4, 4, 4, 4, 4, 4, 4, 4, 4, 4, 5, 4);
        // as at an earlier t 17 ago in 26, never less than that
        isFound(3, 0, 5, 5, 5, 6, 9);
        isFound(3, 0, 0, 4, 6, 7, 9);
    }

    private static void foundTicks() {
        at("for t from 0 to 64 .. Behind 64 REFUSED 3");
        BarrelSlots b = asking(0, 0, 4, 4, 10, 11);
        due("found in 64", b.found(), 0);
        due("ten slots", b.count(1), 10);
        // would be found in 65
        isFound(3, 0, 4, 6, 7, 11, 11);
        // a limit is missed in 64, would be missed in 65
        isFound(2, 0, 0, 0, 2, 9, 16);
        isFound(3, 0, 0, 0, 2, 13, 16);
    }

    private static void foundWithout() {
        at("Without any GAP the TABLE is one SPARE");
        BarrelSlots b = withTable(5, 5, 5, 5, 5, 5, 5, 5, 5, 5, 5, 5, 5, 5, 5, 5);
        due("found", b.found(), 0);
        isTable(b, -1);
        due("slots", b.slots(16), 1);
        due("all new ones are spare", b.count(2), 16);
        b.asks(0, 4);
        b.asks(0, 0);
        b.slot(0, 0);
        due("asked no more", b.found(), 0);
        isTable(b, -1);
    }

    private static void started() {
        at("START: NOW is 0; REGISTERS, CELLS, PLACES, PINS are 0, LOOPS as not begun");
        BarrelSlots b = withTable(0);
        b.pin(0, true);
        b.pin(4, false);
        b.event(4, 2, true);
        b.event(4, 9, false);
        b.memory(0, 16);
        b.memory(1, 0);
        code(b, 0, i(SET, 7, 15), i(STORE, 7, 7), i(OUT, 0, 7), i(LOOP, 7, 0), i(HALT));
        due("before any tick", b.start(), 0);
        b.run(8);
        due("a begun loop", b.code(0, 3, 4), 5);
        b.set(5, 7, 3);
        due("now as it was", b.start(), 8);
        due("now", b.count(0), 0);
        due("register", b.register(0, 7), 0);
        due("register of another", b.register(5, 7), 0);
        due("cell", b.cell(0, 15), 0);
        stands("all", b, 0, READY, 0, 0);
        due("out pin", b.level(0, 0), 0);
        due("in pin", b.level(4, 0), 0);
        due("loop", b.code(0, 3, 4), 0);
        at("no EDGES");
        due("edges", b.count(6), 0);
        due("none such", b.edge(0, 0), -1);
        at("(CODES, MEMORIES, PINS' kinds, EVENTS, TABLE, DUE, ASKED stay.)");
        due("code", b.thread(0, 8), 5);
        due("memory", b.thread(0, 10), 16);
        due("memory of none", b.thread(1, 10), 0);
        due("no memory", b.thread(2, 10), -1);
        due("out", b.level(0, 1), 1);
        due("in", b.level(4, 1), 0);
        due("none", b.level(1, 1), 2);
        due("events", b.count(7), 2);
        due("table", b.table(0), 0);
        b.run(3);
        due("events come again", b.level(4, 0), 1);
        due("an edge again", b.count(6), 1);
        due("may be told of 3 again", b.event(4, 3, false), 3);
        b.run(29);
        due("eight times round again", b.thread(0, 1), 4);
    }

    private static void startedAmongStates() {
        at("all READY, nobody at CHANNELS; all that is counted is 0");
        BarrelSlots b = withTable(0, 1, 2, 3, 4, 5, -1);
        b.pin(0, true);
        code(b, 0, i(OUTAT, 0, 0, 1), i(OUTAT, 0, 0, 2), i(SET));
        code(b, 1, i(SEND, 0, 0));
        code(b, 2, i(SEND, 0, 0));
        code(b, 3, i(TAKE, 3, 0));
        code(b, 4, i(HALT));
        code(b, 5, i(LOAD, 0, 0));
        b.set(0, 1, -1);
        b.set(0, 2, 90);
        b.hard(0, false);
        b.due(3, 9999);
        b.asks(4, 16);
        b.run(14);
        due("waits", b.thread(0, 0), WAITS);
        due("late", b.count(8), 1);
        due("two send", b.channel(0, 0), 2);
        due("now", b.start(), 14);
        for (int t = 0; t < 6; t++) {
            for (int what = 0; what <= 7; what++) {
                due("thread(" + t + ", " + what + ")", b.thread(t, what), what == 6 ? -1 : 0);
            }
        }
        for (int c = 0; c < 4; c++) {
            due("sends", b.channel(c, 0), 0);
            due("takes", b.channel(c, 1), 0);
            due("first", b.channel(c, 2), -1);
        }
        int[] counts = {0, 7, 1, 0, 0, 0, 0, 0, 0, -1, 0, 0, 0};
        for (int what = 0; what < counts.length; what++) {
            due("count(" + what + ")", b.count(what), counts[what]);
        }
        due("no share yet", b.share(0), -1);
        due("due", b.thread(3, 11), 9999);
        due("asked", b.thread(4, 12), 16);
        due("soft", b.thread(0, 9), 0);
        b.run(91);
        due("nothing of before is written", b.count(6), 0);
        due("two send again", b.channel(0, 0), 2);
        due("the first", b.channel(0, 2), 1);
        at("START: all that is counted is 0: what had passed");
        BarrelSlots c = withTable(0, 1);
        code(c, 0, i(SEND, 0, 0));
        code(c, 1, i(TAKE, 0, 0));
        c.run(6);
        due("passed", c.count(12), 3);
        c.start();
        due("none", c.count(12), 0);
    }

    private static void startedTurns() {
        at("next GIVEN from 0 on");
        BarrelSlots b = allSoft();
        b.run(3);
        due("given last", b.count(9), 2);
        b.start();
        due("none", b.count(9), -1);
        b.run(1);
        due("from 0 on", b.count(9), 0);
    }

    private static void foretoldChangesNothing() {
        at("What is foretold .. changes nothing");
        BarrelSlots b = withTable(0, -1);
        b.pin(0, true);
        b.pin(4, false);
        b.event(4, 5, true);
        b.memory(0, 1);
        b.hard(1, false);
        code(b, 0, i(ADD, 1, 1, 2), i(STORE, 1, 0), i(OUT, 0, 1), i(LOOP, 7, 0), i(SEND, 0, 1));
        code(b, 1, i(TAKE, 0, 3), i(OUTAT, 0, 3, 4), i(LOAD, 0, 0));
        b.set(0, 2, 1);
        b.run(3);
        for (int k = 0; k < 2; k++) {
            // thread 0 has each even tick; its 33rd, of which two are done, sends: that of the second round to nobody
            due("will", b.will(0, 60), 122);
            due("alone", b.alone(0, 31), 64);
            due("alone", b.alone(0, 32), -1);
            due("ahead", b.ahead(0, 1, 300), 16);
            int[] counts = {3, 2, 1, 1, 0, 3, 0, 1, 0, 1, 0, 0, 0};
            for (int what = 0; what < counts.length; what++) {
                due("count(" + what + ")", b.count(what), counts[what]);
            }
            int[] thread = {0, 2, 0, 2, 0, 0, -1, 0, 5, 1, 1, 0, 0};
            for (int what = 0; what < thread.length; what++) {
                due("thread(0, " + what + ")", b.thread(0, what), thread[what]);
            }
            stands("the taker", b, 1, TAKES, 1, 0);
            due("takes", b.channel(0, 1), 1);
            due("cell", b.cell(0, 0), 1);
            due("register", b.register(0, 1), 1);
            due("pins", b.level(0, 0) + b.level(4, 0), 0);
            due("loop", b.code(0, 3, 4), 0);
            due("its code stays", b.thread(1, 8), 3);
        }
    }

    private static void foretoldByWhatIsTold() {
        at("What is foretold is so without anything told from NOW on");
        BarrelSlots b = single();
        b.pin(0, false);
        code(b, 0, i(IN, 0, 1));
        due("no event yet", b.ahead(0, 1, 300), 0);
        b.event(0, 299, true);
        due("an event of its last tick", b.ahead(0, 1, 300), 1);
        due("not behind 299", b.ahead(0, 1, 299), 0);
        b.tell(0, HALT, 0, 0, 0);
        due("by the code as it is", b.ahead(0, 1, 300), 0);
        due("halts in 1", b.will(0, 2), 1);
        due("nothing behind that", b.will(0, 3), -1);
        b.slot(0, 1);
        due("by the table as it is", b.will(0, 1), -1);
        b.hard(0, false);
        due("soft by now", b.will(0, 1), 0);
    }

    private static void foretoldFromWhatIs() {
        at("What is foretold: what is waited for, sent and taken goes on from NOW");
        BarrelSlots b = withTable(0, 1, 2, 3, 4);
        b.pin(1, true);
        b.pin(5, false);
        b.event(5, 20, true);
        b.memory(4, 2);
        code(b, 0, i(OUTAT, 1, 1, 2), i(HALT));
        code(b, 1, i(INAT, 5, 7, 2), i(HALT));
        code(b, 2, i(SEND, 2, 1), i(HALT));
        code(b, 3, i(WAIT, 2), i(TAKE, 2, 6), i(OUTAT, 1, 1, 2), i(HALT));
        code(b, 4, i(SET, 1, 1), i(STORE, 1, 1), i(LOAD, 5, 1), i(HALT));
        for (int t = 0; t < 4; t++) {
            b.set(t, 1, 90 + t);
            b.set(t, 2, t == 3 ? 10 : 20);
        }
        b.run(10);
        due("a level that is read at 20, ahead of it", b.ahead(1, 7, 10), 0);
        due("a level that is read at 20", b.ahead(1, 7, 11), 1);
        due("what is sent, ahead of it", b.ahead(3, 6, 3), 0);
        due("what is sent", b.ahead(3, 6, 4), 92);
        due("the taker goes on in 18, where another's claim stops it", b.will(3, 2), 18);
        due("no more behind that", b.will(3, 3), -1);
        due("a cell as it is", b.ahead(4, 5, 5), 1);
        b.wipe(0);
        due("no claim", b.will(3, 3), 23);
        at("What is foretold: turns are given from the one behind that to which one was given last");
        BarrelSlots c = allSoft();
        c.run(2);
        for (int t = 0; t < 6; t++) {
            due("will of " + t, c.will(t, 1), t < 2 ? t + 6 : t);
        }
    }
}
