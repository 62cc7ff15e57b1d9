import java.util.ArrayList;
import java.util.Arrays;
import java.util.HashMap;
import java.util.HashSet;
import java.util.List;
import java.util.Map;
import java.util.NoSuchElementException;
import java.util.Random;
import java.util.Set;
import java.util.TreeMap;

/** Random runs of calls, each answer against a second, slow reading of the document. */
public final class RandomTests {
    private static final int OBJECTS = 3000;
    private static final int CALLS = 512;
    private static final int UNKNOWN = Integer.MIN_VALUE + 7;
    private static final String[] NAMES = {"tell", "wipe", "memory", "hard", "pin", "event", "slots", "slot", "due", "asks",
        "found", "start", "run", "set", "register", "cell", "code", "thread", "level", "edge", "channel", "table", "bound",
        "span", "will", "alone", "ahead", "share", "count"};
    private static final int[] WIDTH = {5, 1, 2, 2, 2, 3, 1, 2, 2, 2, 0, 0, 1, 3, 2, 2, 3, 2, 2, 2, 2, 1, 2, 3, 2, 2, 3, 1, 1};

    /** What was seen, so that the runs are known to reach it. */
    private static final Set<String> SEEN = new HashSet<>();

    public static void main(String[] args) {
        int wrong = 0;
        for (int seed = 0; seed < OBJECTS && wrong < 5; seed++) {
            wrong += play(seed) ? 0 : 1;
        }
        wrong += unseen();
        System.out.println(wrong == 0 ? "all random runs agree" : "random runs disagree");
        if (wrong != 0) {
            System.exit(1);
        }
    }

    private static int unseen() {
        List<String> wanted = new ArrayList<>(Arrays.asList("found=0", "found=1", "found=2", "found=3", "bound0=1", "bound5=1",
            "late", "edges=40", "will", "alone"));
        for (int state = 0; state <= 5; state++) {
            wanted.add("state=" + state);
        }
        for (int trap = 1; trap <= 4; trap++) {
            wanted.add("trap=" + trap);
        }
        for (int senders = 1; senders <= 3; senders++) {
            wanted.add("channel0=" + senders);
            wanted.add("channel1=" + senders);
        }
        wanted.removeAll(SEEN);
        if (!wanted.isEmpty()) {
            System.out.println("never seen: " + wanted);
        }
        return wanted.size();
    }

    private static boolean play(int seed) {
        Random random = new Random(seed);
        BarrelSlots real = new BarrelSlots();
        Model model = new Model();
        StringBuilder story = new StringBuilder();
        for (int call = 0; call < CALLS; call++) {
            int op = pick(random, call, seed);
            int[] a = arguments(random, op, seed);
            long want = answer(null, model, op, a);
            long got = answer(real, null, op, a);
            story.append(NAMES[op]).append(Arrays.toString(Arrays.copyOf(a, WIDTH[op]))).append(" = ").append(got).append('\n');
            if (want != got && want != UNKNOWN) {
                System.out.println(story + "seed " + seed + ": due is " + want);
                return false;
            }
            note(op, a, got);
        }
        return true;
    }

    private static void note(int op, int[] a, long got) {
        String name = NAMES[op];
        if (name.equals("found")) {
            SEEN.add("found=" + got);
        } else if (name.equals("thread") && a[1] == 0) {
            SEEN.add("state=" + got);
        } else if (name.equals("thread") && a[1] == 2) {
            SEEN.add("trap=" + got);
        } else if (name.equals("thread") && a[1] == 7 && got > 0) {
            SEEN.add("late");
        } else if (name.equals("bound")) {
            SEEN.add("bound" + a[1] + "=" + got);
        } else if (name.equals("channel")) {
            SEEN.add("channel" + a[1] + "=" + got);
        } else if (name.equals("count") && a[0] == 6) {
            SEEN.add("edges=" + got);
        } else if ((name.equals("will") || name.equals("alone")) && got >= 0) {
            SEEN.add(name);
        }
    }

    private static int pick(Random random, int call, int seed) {
        if (call < 30) {
            return new int[] {4, 4, 4, 6, 7, 7, 7, 3, 2}[random.nextInt(9)];
        }
        if (call < 110 && random.nextInt(4) != 0) {
            return 0;
        }
        int k = random.nextInt(100);
        if (k < 25) {
            return 12;
        }
        if (k < 30) {
            return 0;
        }
        if (k < 40) {
            return 17;
        }
        if (k < 45) {
            return 13;
        }
        if (k < 50) {
            return 20;
        }
        if (k < 53) {
            return 19;
        }
        if (k < 55) {
            return 28;
        }
        if (k == 55 || (k == 56 && seed % 3 == 0)) {
            return 11;
        }
        return random.nextInt(NAMES.length);
    }

    private static int near(Random random, int n) {
        return random.nextInt(40) == 0 ? (random.nextBoolean() ? -1 - random.nextInt(2) : n + random.nextInt(2)) : random.nextInt(n);
    }

    private static int[] arguments(Random random, int op, int seed) {
        int t = near(random, seed % 2 == 0 ? 6 : 3);
        switch (NAMES[op]) {
            case "tell":
                return tellArguments(random, t, seed);
            case "memory":
                return new int[] {t, random.nextInt(20) - 2};
            case "hard":
                return new int[] {t, random.nextInt(2)};
            case "pin":
                int pin = near(random, 8);
                return new int[] {pin, random.nextInt(20) == 0 ? random.nextInt(2) : pin < 4 ? 1 : 0};
            case "event":
                return new int[] {near(random, 8), random.nextInt(60) == 0 ? 99999 + random.nextInt(2) : random.nextInt(500), random.nextInt(2)};
            case "slots":
                return new int[] {near(random, 17)};
            case "slot":
                return new int[] {near(random, 8), random.nextInt(7) - 1};
            case "due":
                return new int[] {t, random.nextInt(3) == 0 ? random.nextInt(11000) - 500 : random.nextInt(120)};
            case "asks":
                return new int[] {t, random.nextInt(3) == 0 ? 0 : near(random, 17)};
            case "run":
                return new int[] {random.nextInt(30) == 0 ? random.nextInt(230) - 5 : 1 + random.nextInt(12)};
            case "set":
                return new int[] {t, near(random, 8), value(random)};
            case "cell":
                return new int[] {t, near(random, 16)};
            case "code":
                return new int[] {t, near(random, 10), near(random, 5)};
            case "thread":
                return new int[] {t, near(random, 13)};
            case "edge":
                return new int[] {near(random, random.nextBoolean() ? 40 : 4), near(random, 4)};
            case "channel":
                return new int[] {near(random, 4), near(random, 3)};
            case "table":
                return new int[] {near(random, 16)};
            case "bound":
                return new int[] {t, near(random, 6)};
            case "span":
                return new int[] {t, random.nextInt(4) == 0 ? random.nextInt(100200) - 50 : random.nextInt(40), near(random, 2)};
            case "will":
            case "alone":
                return new int[] {t, random.nextInt(4) == 0 ? random.nextInt(65) - 2 : 1 + random.nextInt(8)};
            case "ahead":
                return new int[] {t, near(random, 8), random.nextInt(4) == 0 ? random.nextInt(310) - 4 : 1 + random.nextInt(20)};
            case "count":
                return new int[] {near(random, 13)};
            default:
                return new int[] {t, near(random, 8)};
        }
    }

    private static int value(Random random) {
        switch (random.nextInt(6)) {
            case 0:
                return random.nextInt();
            case 1:
                return random.nextInt(400);
            case 2:
                return 0;
            default:
                return random.nextInt(24) - 4;
        }
    }

    private static int[] tellArguments(Random random, int thread, int seed) {
        int kind = near(random, 21);
        if (seed % 4 == 1) {
            // plain ones mostly
            kind = new int[] {0, 1, 4, 8, 8, 7, 9, 9, 9, 15}[random.nextInt(10)];
        } else if (seed % 4 == 2) {
            // those that meet others mostly
            kind = new int[] {0, 0, 11, 13, 14, 16, 17, 17, 17, 15, 10, 1}[random.nextInt(12)];
        } else if (seed % 4 == 3) {
            // those that write pins mostly
            kind = new int[] {10, 10, 1, 1, 1, 0, 11, 15}[random.nextInt(8)];
        } else if (random.nextInt(3) != 0 && (kind == 18 || kind == 5 || kind == 6)) {
            kind = 1;
        }
        int x = near(random, 8);
        int y = near(random, 8);
        int z = near(random, 8);
        if (kind == 0) {
            y = value(random);
        } else if (kind == 7 || kind == 8) {
            y = near(random, 24);
        } else if (kind == 9) {
            x = random.nextInt(4);
            y = near(random, 12);
        } else if (kind == 16 || kind == 17) {
            x = near(random, 4);
        } else if (kind == 10 || kind == 11 || kind == 12 || kind == 13) {
            x = near(random, 3) + (kind >= 12 ? 4 : 0);
        }
        return new int[] {thread, kind, x, y, z};
    }

    private static final long THROWN = Long.MIN_VALUE;

    private static long answer(BarrelSlots b, Model m, int op, int[] a) {
        try {
            return b != null ? ofReal(b, op, a) : m.call(NAMES[op], a);
        } catch (NoSuchElementException e) {
            return THROWN;
        }
    }

    private static long ofReal(BarrelSlots b, int op, int[] a) {
        switch (NAMES[op]) {
            case "tell": return b.tell(a[0], a[1], a[2], a[3], a[4]);
            case "wipe": return b.wipe(a[0]);
            case "memory": return b.memory(a[0], a[1]);
            case "hard": return b.hard(a[0], a[1] == 1) ? 1 : 0;
            case "pin": return b.pin(a[0], a[1] == 1) ? 1 : 0;
            case "event": return b.event(a[0], a[1], a[2] == 1);
            case "slots": return b.slots(a[0]);
            case "slot": return b.slot(a[0], a[1]) ? 1 : 0;
            case "due": return b.due(a[0], a[1]);
            case "asks": return b.asks(a[0], a[1]);
            case "found": return b.found();
            case "start": return b.start();
            case "run": return b.run(a[0]);
            case "set": return b.set(a[0], a[1], a[2]);
            case "register": return b.register(a[0], a[1]);
            case "cell": return b.cell(a[0], a[1]);
            case "code": return b.code(a[0], a[1], a[2]);
            case "thread": return b.thread(a[0], a[1]);
            case "level": return b.level(a[0], a[1]);
            case "edge": return b.edge(a[0], a[1]);
            case "channel": return b.channel(a[0], a[1]);
            case "table": return b.table(a[0]);
            case "bound": return b.bound(a[0], a[1]);
            case "span": return b.span(a[0], a[1], a[2]);
            case "will": return b.will(a[0], a[1]);
            case "alone": return b.alone(a[0], a[1]);
            case "ahead": return b.ahead(a[0], a[1], a[2]);
            case "share": return b.share(a[0]);
            default: return b.count(a[0]);
        }
    }

    /** One thread of the model. */
    private static final class T {
        List<int[]> code = new ArrayList<>();
        int[] reg = new int[8];
        int[] mem = null;
        Map<Integer, Integer> loops = new HashMap<>();
        boolean soft;
        int place, state, trap, done, given, rounds, late, due, gap;
        int till, waitKind, waitPin, waitReg, waitValue;
        int channel;
        long came;

        T copy() {
            T t = new T();
            t.code = new ArrayList<>(code);
            t.reg = reg.clone();
            t.mem = mem == null ? null : mem.clone();
            t.loops = new HashMap<>(loops);
            t.soft = soft;
            t.place = place;
            t.state = state;
            t.trap = trap;
            t.done = done;
            t.given = given;
            t.rounds = rounds;
            t.late = late;
            t.due = due;
            t.gap = gap;
            t.till = till;
            t.waitKind = waitKind;
            t.waitPin = waitPin;
            t.waitReg = waitReg;
            t.waitValue = waitValue;
            t.channel = channel;
            t.came = came;
            return t;
        }
    }

    /** The document, read a second time. */
    private static final class Model {
        T[] th = new T[6];
        String[] kind = new String[8];
        int[] level = new int[8];
        List<int[]> events = new ArrayList<>();
        List<Integer> table = new ArrayList<>(List.of(-1));
        List<int[]> edges = new ArrayList<>();
        int now, lost, passed, lastGiven = -1;
        long arrivals;

        Model() {
            for (int i = 0; i < 6; i++) {
                th[i] = new T();
            }
        }

        Model copy() {
            Model m = new Model();
            for (int i = 0; i < 6; i++) {
                m.th[i] = th[i].copy();
            }
            m.kind = kind.clone();
            m.level = level.clone();
            m.events = events;
            m.table = table;
            m.now = now;
            m.lastGiven = lastGiven;
            m.arrivals = arrivals;
            return m;
        }

        T t(int i) {
            return i >= 0 && i <= 5 ? th[i] : null;
        }

        long call(String name, int[] a) {
            T t = a.length > 0 ? t(a[0]) : null;
            switch (name) {
                case "tell": return tell(t, a);
                case "wipe": return wipe(t);
                case "memory":
                    if (t == null || a[1] > 16) {
                        return -2;
                    } else {
                        int before = t.mem == null ? -1 : t.mem.length;
                        t.mem = a[1] < 0 ? null : new int[a[1]];
                        return before;
                    }
                case "hard":
                    if (t == null || t.soft != (a[1] == 1)) {
                        return 0;
                    }
                    t.soft = !t.soft;
                    return 1;
                case "pin": return pin(a[0], a[1] == 1 ? "OUT" : "IN");
                case "event":
                    if (a[0] < 0 || a[0] > 7 || !"IN".equals(kind[a[0]]) || a[1] < now || a[1] > 99999 || events.size() == 32) {
                        return -1;
                    }
                    events.add(new int[] {a[0], a[1], a[2]});
                    return events.size();
                case "slots": return slots(a[0]);
                case "slot":
                    if (a[0] < 0 || a[0] >= table.size() || a[1] < -1 || a[1] > 5) {
                        return 0;
                    }
                    table.set(a[0], a[1]);
                    return 1;
                case "due":
                    if (t == null || a[1] < 0 || a[1] > 9999) {
                        return -1;
                    } else {
                        int before = t.due;
                        t.due = a[1];
                        return before;
                    }
                case "asks":
                    if (t == null || a[1] < 0 || a[1] > 16) {
                        return -1;
                    } else {
                        int before = t.gap;
                        t.gap = a[1];
                        return before;
                    }
                case "found": return found();
                case "start": return start();
                case "run": return run(a[0]);
                default: return look(name, t, a);
            }
        }

        long tell(T t, int[] a) {
            if (t == null || a[1] < 0 || a[1] > 20 || t.code.size() == 24) {
                return -1;
            }
            // R register, P pin, C channel, L times of a loop, J place of a leap, B place of a loop, - any
            String shape = ("R-- RRR RRR RRR RRR RR- RR- -J- RJ- LB- PR- PRR PR- PRR R-- R-- CR- CR- --- RRR RRR").split(" ")[a[1]];
            for (int i = 0; i < 3; i++) {
                int v = a[2 + i];
                char c = shape.charAt(i);
                int top = c == 'C' ? 3 : c == 'J' ? 23 : c == 'B' ? t.code.size() : 7;
                if (c != '-' && (v < 0 || v > top)) {
                    return -1;
                }
            }
            t.code.add(new int[] {a[1], a[2], a[3], a[4]});
            return t.code.size() - 1;
        }

        long wipe(T t) {
            if (t == null) {
                return -1;
            }
            int had = t.code.size();
            t.code.clear();
            t.loops.clear();
            t.place = 0;
            t.state = 0;
            t.trap = 0;
            return had;
        }

        long pin(int p, String told) {
            if (p < 0 || p > 7 || kind[p] != null) {
                return 0;
            }
            for (int q = 0; q < 8; q++) {
                if (q / 4 == p / 4 && kind[q] != null && !kind[q].equals(told)) {
                    return 0;
                }
            }
            kind[p] = told;
            return 1;
        }

        long slots(int n) {
            if (n < 1 || n > 16) {
                return -1;
            }
            int before = table.size();
            while (table.size() < n) {
                table.add(-1);
            }
            while (table.size() > n) {
                table.remove(table.size() - 1);
            }
            return before;
        }

        long found() {
            TreeMap<Integer, Integer> limit = new TreeMap<>();
            long parts = 0;
            for (int i = 0; i < 6; i++) {
                if (th[i].gap > 0) {
                    limit.put(i, th[i].gap);
                    parts += 5040L * 143 * 2 * 1001 / th[i].gap;
                    if (5040L * 143 * 2 * 1001 % th[i].gap != 0) {
                        throw new IllegalStateException("shares are not whole");
                    }
                }
            }
            if (limit.isEmpty()) {
                table = new ArrayList<>(List.of(-1));
                return 0;
            }
            if (parts > 5040L * 143 * 2 * 1001) {
                return 1;
            }
            List<String> history = new ArrayList<>();
            List<Integer> made = new ArrayList<>();
            for (int t = 0; t <= 64; t++) {
                StringBuilder less = new StringBuilder();
                for (int v : limit.values()) {
                    less.append(v - t).append(' ');
                }
                int earlier = history.lastIndexOf(less.toString());
                if (earlier >= 0 && t - earlier <= 16) {
                    table = new ArrayList<>(made.subList(earlier, t));
                    return 0;
                }
                history.add(less.toString());
                int best = limit.firstKey();
                for (int i : limit.keySet()) {
                    if (limit.get(i) < limit.get(best)) {
                        best = i;
                    }
                }
                if (limit.get(best) <= t) {
                    return 2;
                }
                made.add(best);
                limit.put(best, t + 1 + th[best].gap);
            }
            return 3;
        }

        long start() {
            int before = now;
            now = 0;
            for (T t : th) {
                Arrays.fill(t.reg, 0);
                if (t.mem != null) {
                    Arrays.fill(t.mem, 0);
                }
                t.place = 0;
                t.loops.clear();
                t.state = 0;
                t.trap = 0;
                t.done = 0;
                t.given = 0;
                t.rounds = 0;
                t.late = 0;
            }
            Arrays.fill(level, 0);
            edges.clear();
            lost = 0;
            passed = 0;
            lastGiven = -1;
            return before;
        }

        long run(int n) {
            if (n < 1 || n > 200) {
                return -1;
            }
            int before = sum(0);
            for (int i = 0; i < n; i++) {
                tick();
            }
            return sum(0) - before;
        }

        int sum(int what) {
            int s = 0;
            for (T t : th) {
                s += what == 0 ? t.done : what == 1 ? t.given : t.late;
            }
            return s;
        }

        void writePin(int p, int v, boolean late) {
            if (level[p] != v) {
                level[p] = v;
                edges.add(0, new int[] {now, p, v, late ? 1 : 0});
                if (edges.size() > 40) {
                    edges.remove(40);
                }
            }
        }

        void tick() {
            for (int[] e : events) {
                if (e[1] == now) {
                    level[e[0]] = e[2];
                }
            }
            for (T t : th) {
                if (t.state == 1 && t.till == now) {
                    if (t.waitKind == 11) {
                        writePin(t.waitPin, t.waitValue, false);
                    }
                    if (t.waitKind == 13) {
                        t.reg[t.waitReg] = level[t.waitPin];
                    }
                    t.state = 0;
                }
            }
            T turn = t(table.get(now % table.size()));
            if (turn == null || turn.state != 0 || turn.code.isEmpty()) {
                turn = null;
                for (int k = 1; k <= 6 && turn == null; k++) {
                    int i = (lastGiven + k) % 6;
                    if (th[i].soft && th[i].state == 0 && !th[i].code.isEmpty()) {
                        turn = th[i];
                        turn.given++;
                        lastGiven = i;
                        break;
                    }
                }
            }
            if (turn == null) {
                lost++;
            } else {
                turn.done++;
                step(turn);
            }
            now++;
        }

        int trapBy(T t, int[] c) {
            boolean out = c[0] == 10 || c[0] == 11;
            boolean in = c[0] == 12 || c[0] == 13;
            if ((c[0] == 5 || c[0] == 6) && t.mem == null) {
                return 1;
            }
            if ((c[0] == 5 || c[0] == 6) && (t.reg[c[2]] < 0 || t.reg[c[2]] >= t.mem.length)) {
                return 2;
            }
            if ((out && !"OUT".equals(kind[c[1]])) || (in && !"IN".equals(kind[c[1]]))) {
                return 3;
            }
            if (c[0] == 11) {
                for (T o : th) {
                    if (o != t && o.state == 1 && o.waitKind == 11 && o.waitPin == c[1]) {
                        return 4;
                    }
                }
            }
            return 0;
        }

        /** The one that came first of those in a state at a channel. */
        T first(int channel, int state) {
            T best = null;
            for (T o : th) {
                if (o.state == state && o.channel == channel && (best == null || o.came < best.came)) {
                    best = o;
                }
            }
            return best;
        }

        void step(T t) {
            int at = t.place;
            int[] c = t.code.get(at);
            int x = c[1];
            int y = c[2];
            int z = c[3];
            t.trap = trapBy(t, c);
            if (t.trap != 0) {
                t.state = 5;
                return;
            }
            int next = at + 1;
            int[] r = t.reg;
            switch (c[0]) {
                case 0: r[x] = y; break;
                case 1: r[x] = r[y] + r[z]; break;
                case 2: r[x] = r[y] - r[z]; break;
                case 3: r[x] = r[y] * r[z]; break;
                case 4: r[x] = r[y] < r[z] ? 1 : 0; break;
                case 5: r[x] = t.mem[r[y]]; break;
                case 6: t.mem[r[y]] = r[x]; break;
                case 7: next = y; break;
                case 8: next = r[x] != 0 ? y : next; break;
                case 9:
                    int left = t.loops.getOrDefault(at, x);
                    if (left == 0) {
                        t.loops.remove(at);
                    } else {
                        t.loops.put(at, left - 1);
                        next = y;
                    }
                    break;
                case 10: writePin(x, r[y] & 1, false); break;
                case 11: case 13: timed(t, c); break;
                case 12: r[y] = level[x]; break;
                case 14:
                    if (r[x] > now) {
                        t.state = 1;
                        t.till = r[x];
                        t.waitKind = 14;
                    }
                    break;
                case 15: r[x] = now; break;
                case 16: case 17: meet(t, c); break;
                case 18: t.state = 4; break;
                case 19: r[x] = Float.floatToIntBits((float) r[y] / (float) r[z]); break;
                default: r[x] = (int) ((float) r[y] * (float) r[z] / 1024f); break;
            }
            if (next >= t.code.size()) {
                next = 0;
                t.rounds++;
            }
            t.place = next;
        }

        void timed(T t, int[] c) {
            int tick = t.reg[c[3]];
            int v = t.reg[c[2]] % 2 == 0 ? 0 : 1;
            if (tick > now) {
                t.state = 1;
                t.till = tick;
                t.waitKind = c[0];
                t.waitPin = c[1];
                t.waitReg = c[2];
                t.waitValue = v;
                return;
            }
            if (tick < now) {
                t.late++;
            }
            if (c[0] == 11) {
                writePin(c[1], v, tick < now);
            } else {
                t.reg[c[2]] = level[c[1]];
            }
        }

        void meet(T t, int[] c) {
            T other = first(c[1], c[0] == 16 ? 3 : 2);
            if (other == null) {
                t.state = c[0] == 16 ? 2 : 3;
                t.channel = c[1];
                t.came = arrivals++;
                t.waitReg = c[2];
                t.waitValue = t.reg[c[2]];
                return;
            }
            if (c[0] == 16) {
                other.reg[other.waitReg] = t.reg[c[2]];
            } else {
                t.reg[c[2]] = other.waitValue;
            }
            other.state = 0;
            passed++;
        }

        long look(String name, T t, int[] a) {
            switch (name) {
                case "set":
                    if (t == null || a[1] < 0 || a[1] > 7) {
                        throw new NoSuchElementException();
                    } else {
                        int before = t.reg[a[1]];
                        t.reg[a[1]] = a[2];
                        return before;
                    }
                case "register":
                    if (t == null || a[1] < 0 || a[1] > 7) {
                        throw new NoSuchElementException();
                    }
                    return t.reg[a[1]];
                case "cell":
                    if (t == null || t.mem == null || a[1] < 0 || a[1] >= t.mem.length) {
                        throw new NoSuchElementException();
                    }
                    return t.mem[a[1]];
                case "code":
                    if (t == null || a[1] < 0 || a[1] >= t.code.size() || a[2] < 0 || a[2] > 4) {
                        throw new NoSuchElementException();
                    }
                    return a[2] < 4 ? t.code.get(a[1])[a[2]] : t.loops.getOrDefault(a[1], 0);
                case "thread": return t == null || a[1] < 0 || a[1] > 12 ? -2 : ofThread(t)[a[1]];
                case "level":
                    if (a[0] < 0 || a[0] > 7 || a[1] < 0 || a[1] > 1) {
                        return -1;
                    }
                    return a[1] == 0 ? level[a[0]] : kind[a[0]] == null ? 2 : kind[a[0]].equals("OUT") ? 1 : 0;
                case "edge": return a[0] < 0 || a[0] >= edges.size() || a[1] < 0 || a[1] > 3 ? -1 : edges.get(a[0])[a[1]];
                case "channel": return channel(a[0], a[1]);
                case "table": return a[0] < 0 || a[0] >= table.size() ? -2 : table.get(a[0]);
                case "bound": return t == null || a[1] < 0 || a[1] > 5 ? -1 : bound(a[0], a[1]);
                case "span": return t == null || a[1] < 1 || a[1] > 100000 || a[2] < 0 || a[2] > 1 ? -1 : span(a[0], a[1], a[2] == 1);
                case "will": return t == null || a[1] < 1 || a[1] > 60 ? -1 : copy().nth(a[0], a[1]);
                case "alone": return t == null || a[1] < 1 || a[1] > 60 ? -1 : copy().lonely(a[0]).nth(a[0], a[1]);
                case "ahead": return ahead(t, a);
                case "share": return t == null || now == 0 ? -1 : Float.floatToIntBits((float) t.done / (float) now);
                default: return count(a[0]);
            }
        }

        int[] ofThread(T t) {
            return new int[] {t.state, t.place, t.trap, t.done, t.given, t.rounds, t.state == 1 ? t.till : -1, t.late,
                t.code.size(), t.soft ? 0 : 1, t.mem == null ? -1 : t.mem.length, t.due, t.gap};
        }

        long channel(int c, int what) {
            if (c < 0 || c > 3 || what < 0 || what > 2) {
                return -1;
            }
            int n = 0;
            int who = -1;
            for (int i = 0; i < 6; i++) {
                boolean there = th[i].channel == c && (th[i].state == 2 || th[i].state == 3);
                n += there && th[i].state == 2 + what ? 1 : 0;
                who = there && (who < 0 || th[i].came < th[who].came) ? i : who;
            }
            return what < 2 ? n : who;
        }

        long ahead(T t, int[] a) {
            if (t == null || a[1] < 0 || a[1] > 7 || a[2] < 1 || a[2] > 300) {
                throw new NoSuchElementException();
            }
            Model m = copy();
            for (int i = 0; i < a[2]; i++) {
                m.tick();
            }
            return m.th[a[0]].reg[a[1]];
        }

        Model lonely(int thread) {
            for (int i = 0; i < 6; i++) {
                if (i != thread) {
                    wipe(th[i]);
                }
            }
            return this;
        }

        long nth(int thread, int n) {
            int before = th[thread].done;
            for (int i = 0; i < 300; i++) {
                tick();
                if (th[thread].done == before + n) {
                    return now - 1;
                }
            }
            return -1;
        }

        long span(int thread, int k, boolean worst) {
            if (!table.contains(thread)) {
                return -1;
            }
            // walked slot by slot, but for whole tables when there are many
            int own = 0;
            for (int o : table) {
                own += o == thread ? 1 : 0;
            }
            int skip = k > 200 ? (k - 100) / own : 0;
            long answer = -1;
            for (int s = 0; s < table.size(); s++) {
                int seen = 0;
                int ticks = 0;
                while (seen < k - skip * own) {
                    seen += table.get((s + ticks) % table.size()) == thread ? 1 : 0;
                    ticks++;
                }
                long all = ticks + (long) skip * table.size();
                answer = answer < 0 ? all : worst ? Math.max(answer, all) : Math.min(answer, all);
            }
            return answer;
        }

        boolean plain(T t) {
            Map<Integer, Set<Integer>> loops = new TreeMap<>();
            for (int p = 0; p < t.code.size(); p++) {
                int[] c = t.code.get(p);
                if (c[0] == 11 || c[0] == 13 || c[0] == 14 || c[0] == 16 || c[0] == 17 || c[0] == 18) {
                    return false;
                }
                if (c[0] == 9) {
                    Set<Integer> places = new HashSet<>();
                    for (int q = c[2]; q <= p; q++) {
                        places.add(q);
                    }
                    loops.put(p, places);
                }
            }
            for (Set<Integer> one : loops.values()) {
                for (Set<Integer> two : loops.values()) {
                    Set<Integer> both = new HashSet<>(one);
                    both.retainAll(two);
                    if (!both.isEmpty() && !one.containsAll(two) && !two.containsAll(one)) {
                        return false;
                    }
                }
            }
            for (int p = 0; p < t.code.size(); p++) {
                int[] c = t.code.get(p);
                if (c[0] != 7 && c[0] != 8) {
                    continue;
                }
                if (c[2] <= p) {
                    return false;
                }
                for (int last : loops.keySet()) {
                    Set<Integer> places = loops.get(last);
                    if (places.contains(p) && c[2] > last) {
                        return false;
                    }
                    if (!places.contains(p) && places.contains(c[2]) && c[2] != t.code.get(last)[2]) {
                        return false;
                    }
                }
            }
            return !t.code.isEmpty();
        }

        /** Every way is walked, a state being the place with what each loop has left. */
        long ways(T t, int place, int[] left, boolean most, Map<String, Long> known) {
            if (place >= t.code.size()) {
                return 0;
            }
            String key = place + Arrays.toString(left);
            Long before = known.get(key);
            if (before != null) {
                return before;
            }
            if (known.size() > 3000) {
                return UNKNOWN;
            }
            int[] c = t.code.get(place);
            long answer;
            if (c[0] == 7) {
                answer = ways(t, c[2], left, most, known);
            } else if (c[0] == 8) {
                long on = ways(t, place + 1, left, most, known);
                long off = ways(t, c[2], left, most, known);
                answer = on == UNKNOWN || off == UNKNOWN ? UNKNOWN : most ? Math.max(on, off) : Math.min(on, off);
            } else if (c[0] == 9) {
                int[] then = left.clone();
                int still = left[place] < 0 ? c[1] : left[place];
                then[place] = still == 0 ? -1 : still - 1;
                answer = ways(t, still == 0 ? place + 1 : c[2], then, most, known);
            } else {
                answer = ways(t, place + 1, left, most, known);
            }
            answer = answer == UNKNOWN ? UNKNOWN : answer + 1;
            known.put(key, answer);
            return answer;
        }

        long ofRound(T t, boolean most) {
            int[] left = new int[24];
            Arrays.fill(left, -1);
            long answer = ways(t, 0, left, most, new HashMap<>());
            return answer == UNKNOWN ? UNKNOWN : Math.min(answer, 999999);
        }

        long bound(int thread, int what) {
            T t = th[thread];
            boolean plain = plain(t);
            if (what == 0) {
                return plain ? 1 : 0;
            }
            if (!plain) {
                return what == 5 ? 0 : -1;
            }
            long n = ofRound(t, what != 1 && what != 3);
            if (what <= 2) {
                return n;
            }
            if (what == 5 && (t.soft || t.due == 0)) {
                return 0;
            }
            if (n == UNKNOWN) {
                return UNKNOWN;
            }
            long ticks = n > 100000 ? -1 : span(thread, (int) n, what != 3);
            return what < 5 ? ticks : ticks >= 0 && t.due >= ticks ? 1 : 0;
        }

        long count(int what) {
            long bits = 0;
            switch (what) {
                case 0: return now;
                case 1: return table.size();
                case 2: return table.stream().filter(o -> o == -1).count();
                case 3: return sum(1);
                case 4: return lost;
                case 5: return sum(0);
                case 6: return edges.size();
                case 7: return events.size();
                case 8: return sum(2);
                case 9: return lastGiven;
                case 10:
                    for (int i = 0; i < 6; i++) {
                        bits += th[i].state == 5 ? 1 << i : 0;
                    }
                    return bits;
                case 11:
                    for (int i = 0; i < 6; i++) {
                        long safe = bound(i, 5);
                        if (safe == UNKNOWN) {
                            return UNKNOWN;
                        }
                        bits += safe << i;
                    }
                    return bits;
                case 12: return passed;
                default: return -1;
            }
        }
    }
}
