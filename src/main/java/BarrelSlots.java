import java.util.Arrays;
import java.util.NoSuchElementException;

/** One barrel processor; ../shared/DOC.md says what each call answers. */
public final class BarrelSlots {
    public static final int NONE = -1;

    private static final int NO_SUCH = -2;

    private static final int THREADS = 6;
    private static final int PLACES = 24;
    private static final int REGISTERS = 8;
    private static final int CELLS = 16;
    private static final int CHANNELS = 4;
    private static final int PINS = 8;
    private static final int BANK = 4;
    private static final int SLOTS = 16;
    private static final int EVENTS = 32;
    private static final int EDGES = 40;
    private static final int LAST_EVENT_TICK = 99999;
    private static final int LONGEST_RUN = 200;
    private static final int LONGEST_DUE = 9999;
    private static final int WIDEST_GAP = 16;
    private static final int FORETOLD_TICKS = 300;
    private static final int FORETOLD_INSTRUCTIONS = 60;
    private static final int MOST_TURNS = 100000;
    private static final int MOST_INSTRUCTIONS = 999999;

    private static final int READY = 0;
    private static final int WAITS = 1;
    private static final int SENDS = 2;
    private static final int TAKES = 3;
    private static final int HALTED = 4;
    private static final int TRAPPED = 5;

    private static final int PIN_IN = 0;
    private static final int PIN_OUT = 1;
    private static final int PIN_NONE = 2;

    private static final int NO_TRAP = 0;
    private static final int TRAP_NO_MEMORY = 1;
    private static final int TRAP_OUTSIDE = 2;
    private static final int TRAP_PIN = 3;
    private static final int TRAP_CLAIMED = 4;

    private static final int SET = 0;
    private static final int ADD = 1;
    private static final int SUB = 2;
    private static final int MUL = 3;
    private static final int LESS = 4;
    private static final int LOAD = 5;
    private static final int STORE = 6;
    private static final int JUMP = 7;
    private static final int BRANCH = 8;
    private static final int LOOP = 9;
    private static final int OUT = 10;
    private static final int OUTAT = 11;
    private static final int IN = 12;
    private static final int INAT = 13;
    private static final int WAIT = 14;
    private static final int CLOCK = 15;
    private static final int SEND = 16;
    private static final int TAKE = 17;
    private static final int HALT = 18;
    private static final int RATIO = 19;
    private static final int PART = 20;
    private static final int KINDS = 21;

    /** The greatest x, y, z of each kind, row by row; -1 where any int will do. */
    private static final int[] GREATEST = {
        7, -1, -1, // SET
        7, 7, 7, // ADD
        7, 7, 7, // SUB
        7, 7, 7, // MUL
        7, 7, 7, // LESS
        7, 7, -1, // LOAD
        7, 7, -1, // STORE
        -1, 23, -1, // JUMP
        7, 23, -1, // BRANCH
        7, 23, -1, // LOOP, whose y is held to its own place beside this
        7, 7, -1, // OUT
        7, 7, 7, // OUTAT
        7, 7, -1, // IN
        7, 7, 7, // INAT
        7, -1, -1, // WAIT
        7, -1, -1, // NOW
        3, 7, -1, // SEND
        3, 7, -1, // TAKE
        -1, -1, -1, // HALT
        7, 7, 7, // RATIO
        7, 7, 7, // PART
    };

    private final Table table = new Table();
    private final Events events = new Events();
    private final Machine live = new Machine(table, events);
    /** What is foretold is played here, so that the live one stays as it is. */
    private final Machine ghost = new Machine(table, events);
    private final Counter counter = new Counter();
    private final Finder finder = new Finder();
    private final int[] dues = new int[THREADS];
    private final int[] gaps = new int[THREADS];

    public BarrelSlots() {
    }

    public int tell(int thread, int kind, int x, int y, int z) {
        if (!isThread(thread)) {
            return NONE;
        }
        Code code = live.strands[thread].code;
        return code.suits(kind, x, y, z) ? code.append(kind, x, y, z) : NONE;
    }

    public int wipe(int thread) {
        return isThread(thread) ? live.empty(thread) : NONE;
    }

    public int memory(int thread, int n) {
        if (!isThread(thread) || n > CELLS) {
            return NO_SUCH;
        }
        Strand strand = live.strands[thread];
        int before = strand.cellCount;
        strand.cellCount = n < 0 ? NONE : n;
        Arrays.fill(strand.cells, 0);
        return before;
    }

    public boolean hard(int thread, boolean on) {
        if (!isThread(thread) || live.strands[thread].isHard == on) {
            return false;
        }
        live.strands[thread].isHard = on;
        return true;
    }

    public boolean pin(int pin, boolean out) {
        return live.pins.name(pin, out ? PIN_OUT : PIN_IN);
    }

    public int event(int pin, int tick, boolean on) {
        if (live.pins.kindOf(pin) != PIN_IN || tick < live.now || tick > LAST_EVENT_TICK) {
            return NONE;
        }
        return events.append(pin, tick, on ? 1 : 0);
    }

    public int slots(int n) {
        return n < 1 || n > SLOTS ? NONE : table.resize(n);
    }

    public boolean slot(int slot, int thread) {
        if (!table.has(slot) || (thread != NONE && !isThread(thread))) {
            return false;
        }
        table.owners[slot] = thread;
        return true;
    }

    public int due(int thread, int ticks) {
        if (!isThread(thread) || ticks < 0 || ticks > LONGEST_DUE) {
            return NONE;
        }
        int before = dues[thread];
        dues[thread] = ticks;
        return before;
    }

    public int asks(int thread, int gap) {
        if (!isThread(thread) || gap < 0 || gap > WIDEST_GAP) {
            return NONE;
        }
        int before = gaps[thread];
        gaps[thread] = gap;
        return before;
    }

    public int found() {
        return finder.find(gaps, table);
    }

    public int start() {
        int before = live.now;
        live.reset();
        return before;
    }

    public int run(int n) {
        if (n < 1 || n > LONGEST_RUN) {
            return NONE;
        }
        int done = 0;
        for (int i = 0; i < n; i++) {
            if (live.tick() != NONE) {
                done++;
            }
        }
        return done;
    }

    public int set(int thread, int register, int v) throws NoSuchElementException {
        if (!isThread(thread) || !isRegister(register)) {
            throw new NoSuchElementException();
        }
        int before = live.strands[thread].read(register);
        live.strands[thread].write(register, v);
        return before;
    }

    public int register(int thread, int register) throws NoSuchElementException {
        if (!isThread(thread) || !isRegister(register)) {
            throw new NoSuchElementException();
        }
        return live.strands[thread].read(register);
    }

    public int cell(int thread, int cell) throws NoSuchElementException {
        if (!isThread(thread) || !live.strands[thread].hasCell(cell)) {
            throw new NoSuchElementException();
        }
        return live.strands[thread].cells[cell];
    }

    public int code(int thread, int place, int what) throws NoSuchElementException {
        if (!isThread(thread) || !live.strands[thread].code.has(place) || what < 0 || what > 4) {
            throw new NoSuchElementException();
        }
        Code code = live.strands[thread].code;
        switch (what) {
            case 0:
                return code.kinds[place];
            case 1:
                return code.xs[place];
            case 2:
                return code.ys[place];
            case 3:
                return code.zs[place];
            default:
                return live.strands[thread].stillToGoBack(place);
        }
    }

    public int thread(int thread, int what) {
        if (!isThread(thread)) {
            return NO_SUCH;
        }
        Strand strand = live.strands[thread];
        switch (what) {
            case 0:
                return strand.state;
            case 1:
                return strand.place;
            case 2:
                return strand.trap;
            case 3:
                return strand.done;
            case 4:
                return strand.given;
            case 5:
                return strand.rounds;
            case 6:
                return strand.state == WAITS ? strand.errand.until : NONE;
            case 7:
                return strand.late;
            case 8:
                return strand.code.length;
            case 9:
                return strand.isHard ? 1 : 0;
            case 10:
                return strand.cellCount;
            case 11:
                return dues[thread];
            case 12:
                return gaps[thread];
            default:
                return NO_SUCH;
        }
    }

    public int level(int pin, int what) {
        if (!isPin(pin)) {
            return NONE;
        }
        if (what == 0) {
            return live.pins.levelOf(pin);
        }
        return what == 1 ? live.pins.kindOf(pin) : NONE;
    }

    public int edge(int i, int what) {
        return live.pins.edges.look(i, what);
    }

    public int channel(int channel, int what) {
        if (channel < 0 || channel >= CHANNELS) {
            return NONE;
        }
        switch (what) {
            case 0:
                return live.howManyAt(channel, SENDS);
            case 1:
                return live.howManyAt(channel, TAKES);
            case 2:
                return live.channels.firstAt(channel);
            default:
                return NONE;
        }
    }

    public int table(int slot) {
        return table.has(slot) ? table.owners[slot] : NO_SUCH;
    }

    public int bound(int thread, int what) {
        if (!isThread(thread) || what < 0 || what > 5) {
            return NONE;
        }
        if (what == 5) {
            return isSafe(thread) ? 1 : 0;
        }
        Code code = live.strands[thread].code;
        boolean plain = counter.isPlain(code);
        if (what == 0) {
            return plain ? 1 : 0;
        }
        if (!plain) {
            return NONE;
        }
        boolean greatest = what == 2 || what == 4;
        int instructions = counter.ofRound(code, greatest);
        return what <= 2 ? instructions : table.ticksOf(thread, instructions, greatest);
    }

    public int span(int thread, int turns, int what) {
        if (!isThread(thread) || what < 0 || what > 1) {
            return NONE;
        }
        return table.ticksOf(thread, turns, what == 1);
    }

    public int will(int thread, int n) {
        if (!isThread(thread) || n < 1 || n > FORETOLD_INSTRUCTIONS) {
            return NONE;
        }
        ghost.copy(live);
        return tickOfInstruction(ghost, thread, n);
    }

    public int alone(int thread, int n) {
        if (!isThread(thread) || n < 1 || n > FORETOLD_INSTRUCTIONS) {
            return NONE;
        }
        ghost.copy(live);
        for (int other = 0; other < THREADS; other++) {
            if (other != thread) {
                ghost.empty(other);
            }
        }
        return tickOfInstruction(ghost, thread, n);
    }

    public int ahead(int thread, int register, int ticks) throws NoSuchElementException {
        if (!isThread(thread) || !isRegister(register) || ticks < 1 || ticks > FORETOLD_TICKS) {
            throw new NoSuchElementException();
        }
        ghost.copy(live);
        for (int i = 0; i < ticks; i++) {
            ghost.tick();
        }
        return ghost.strands[thread].read(register);
    }

    public int share(int thread) {
        if (!isThread(thread) || live.now == 0) {
            return NONE;
        }
        return ratioBits(live.strands[thread].done, live.now);
    }

    public int count(int what) {
        switch (what) {
            case 0:
                return live.now;
            case 1:
                return table.length;
            case 2:
                return table.owned(NONE);
            case 3:
                return live.given;
            case 4:
                return live.lost;
            case 5:
                return live.done;
            case 6:
                return live.pins.edges.kept;
            case 7:
                return events.length;
            case 8:
                return live.late;
            case 9:
                return live.lastGiven;
            case 10:
                return live.trapped();
            case 11:
                return safeOnes();
            case 12:
                return live.passed;
            default:
                return NONE;
        }
    }

    private static boolean isThread(int thread) {
        return thread >= 0 && thread < THREADS;
    }

    private static boolean isRegister(int register) {
        return register >= 0 && register < REGISTERS;
    }

    private static boolean isPin(int pin) {
        return pin >= 0 && pin < PINS;
    }

    private static int tickOfInstruction(Machine machine, int thread, int n) {
        int done = 0;
        for (int i = 0; i < FORETOLD_TICKS; i++) {
            int tick = machine.now;
            if (machine.tick() == thread) {
                done++;
            }
            if (done == n) {
                return tick;
            }
        }
        return NONE;
    }

    private boolean isSafe(int thread) {
        Strand strand = live.strands[thread];
        if (!strand.isHard || dues[thread] == 0 || !counter.isPlain(strand.code)) {
            return false;
        }
        int worst = table.ticksOf(thread, counter.ofRound(strand.code, true), true);
        return worst != NONE && dues[thread] >= worst;
    }

    private int safeOnes() {
        int bits = 0;
        for (int thread = 0; thread < THREADS; thread++) {
            if (isSafe(thread)) {
                bits |= 1 << thread;
            }
        }
        return bits;
    }

    /** The bits of a / b as floats, where a zero on either side is told by its bits alone: no NaN may arise. */
    private static int ratioBits(int a, int b) {
        if (b == 0) {
            if (a == 0) {
                return 0x7fc00000;
            }
            return a < 0 ? 0xff800000 : 0x7f800000;
        }
        if (a == 0) {
            return b < 0 ? 0x80000000 : 0;
        }
        return bitsOf((float) a / (float) b);
    }

    /** The bits of a float that is neither zero nor subnormal nor beyond 2 to the 32nd; steps by 2 lose nothing. */
    private static int bitsOf(float value) {
        float size = value < 0 ? -value : value;
        int exponent = 150;
        for (int i = 0; i < 64 && size >= 16777216f; i++) {
            size = size / 2f;
            exponent++;
        }
        for (int i = 0; i < 64 && size < 8388608f; i++) {
            size = size * 2f;
            exponent--;
        }
        int bits = (exponent << 23) | ((int) size & 0x7fffff);
        return value < 0 ? bits | 0x80000000 : bits;
    }

    private static int part(int a, int b) {
        return (int) ((float) a * (float) b / 1024f);
    }

    /** The instructions of one thread. */
    private static final class Code {
        final int[] kinds = new int[PLACES];
        final int[] xs = new int[PLACES];
        final int[] ys = new int[PLACES];
        final int[] zs = new int[PLACES];
        int length;

        boolean has(int place) {
            return place >= 0 && place < length && place < PLACES;
        }

        boolean suits(int kind, int x, int y, int z) {
            if (kind < 0 || kind >= KINDS) {
                return false;
            }
            int row = 3 * kind;
            return upTo(x, GREATEST[row]) && upTo(y, GREATEST[row + 1]) && upTo(z, GREATEST[row + 2])
                && (kind != LOOP || y <= length);
        }

        private static boolean upTo(int operand, int greatest) {
            return greatest < 0 || (operand >= 0 && operand <= greatest);
        }

        int append(int kind, int x, int y, int z) {
            int place = length;
            if (place < 0 || place >= PLACES) {
                return NONE;
            }
            kinds[place] = kind;
            xs[place] = x;
            ys[place] = y;
            zs[place] = z;
            length++;
            return place;
        }

        void copy(Code from) {
            System.arraycopy(from.kinds, 0, kinds, 0, PLACES);
            System.arraycopy(from.xs, 0, xs, 0, PLACES);
            System.arraycopy(from.ys, 0, ys, 0, PLACES);
            System.arraycopy(from.zs, 0, zs, 0, PLACES);
            length = from.length;
        }
    }

    /** What a thread that is not ready is out for, kept as it was in its turn. */
    private static final class Errand {
        int kind;
        int port;
        int register;
        int value;
        int until;

        void copy(Errand from) {
            kind = from.kind;
            port = from.port;
            register = from.register;
            value = from.value;
            until = from.until;
        }
    }

    /** One thread of the processor. */
    private static final class Strand {
        final int number;
        final Code code = new Code();
        final Errand errand = new Errand();
        final int[] registers = new int[REGISTERS];
        final int[] cells = new int[CELLS];
        /** How often the loop at a place has gone back; 0 is as not begun. */
        final int[] goneBack = new int[PLACES];
        int cellCount = NONE;
        boolean isHard = true;
        int place;
        int state = READY;
        int trap = NO_TRAP;
        int done;
        int given;
        int rounds;
        int late;

        Strand(int number) {
            this.number = number;
        }

        boolean canGo() {
            return state == READY && code.has(place);
        }

        int read(int register) {
            return isRegister(register) ? registers[register] : 0;
        }

        void write(int register, int v) {
            if (isRegister(register)) {
                registers[register] = v;
            }
        }

        boolean hasCell(int cell) {
            return cell >= 0 && cell < cellCount && cell < CELLS;
        }

        int stillToGoBack(int at) {
            if (!code.has(at) || goneBack[at] == 0) {
                return 0;
            }
            return code.xs[at] - goneBack[at];
        }

        void goTo(int next) {
            if (next < code.length) {
                place = next;
            } else {
                place = 0;
                rounds++;
            }
        }

        void stopBy(int cause) {
            state = TRAPPED;
            trap = cause;
        }

        /** Where the instruction leads to; a loop counts its way back here. */
        int next(int kind, int x, int y) {
            if (kind == JUMP || (kind == BRANCH && read(x) != 0)) {
                return y;
            }
            if (kind != LOOP || !code.has(place)) {
                return place + 1;
            }
            if (goneBack[place] < x) {
                goneBack[place]++;
                return y;
            }
            goneBack[place] = 0;
            return place + 1;
        }

        /** An instruction that needs nothing beyond the thread itself. */
        void compute(int kind, int x, int y, int z) {
            switch (kind) {
                case SET:
                    write(x, y);
                    break;
                case ADD:
                    write(x, read(y) + read(z));
                    break;
                case SUB:
                    write(x, read(y) - read(z));
                    break;
                case MUL:
                    write(x, read(y) * read(z));
                    break;
                case LESS:
                    write(x, read(y) < read(z) ? 1 : 0);
                    break;
                case LOAD:
                    load(x, read(y));
                    break;
                case STORE:
                    store(read(y), read(x));
                    break;
                case HALT:
                    state = HALTED;
                    break;
                case RATIO:
                    write(x, ratioBits(read(y), read(z)));
                    break;
                case PART:
                    write(x, part(read(y), read(z)));
                    break;
                default:
                    break;
            }
        }

        private void load(int register, int cell) {
            if (hasCell(cell)) {
                write(register, cells[cell]);
            }
        }

        private void store(int cell, int v) {
            if (hasCell(cell)) {
                cells[cell] = v;
            }
        }

        /** As wipe() leaves it; what was counted of it stays. */
        void empty() {
            code.length = 0;
            rewind();
        }

        void reset() {
            Arrays.fill(registers, 0);
            Arrays.fill(cells, 0);
            rewind();
            done = 0;
            given = 0;
            rounds = 0;
            late = 0;
        }

        private void rewind() {
            Arrays.fill(goneBack, 0);
            place = 0;
            state = READY;
            trap = NO_TRAP;
        }

        void copy(Strand from) {
            code.copy(from.code);
            errand.copy(from.errand);
            System.arraycopy(from.registers, 0, registers, 0, REGISTERS);
            System.arraycopy(from.cells, 0, cells, 0, CELLS);
            System.arraycopy(from.goneBack, 0, goneBack, 0, PLACES);
            cellCount = from.cellCount;
            isHard = from.isHard;
            place = from.place;
            state = from.state;
            trap = from.trap;
            done = from.done;
            given = from.given;
            rounds = from.rounds;
            late = from.late;
        }
    }

    /** The latest changes of out pins, in a ring of rows. */
    private static final class Edges {
        private final int[] rows = new int[4 * EDGES];
        private int nextRow;
        int kept;

        void append(int tick, int pin, int level, int late) {
            int at = 4 * nextRow;
            if (at < 0 || at + 3 >= rows.length) {
                return;
            }
            rows[at] = tick;
            rows[at + 1] = pin;
            rows[at + 2] = level;
            rows[at + 3] = late;
            nextRow = nextRow + 1 < EDGES ? nextRow + 1 : 0;
            if (kept < EDGES) {
                kept++;
            }
        }

        /** The i-th from the latest on. */
        int look(int i, int what) {
            if (i < 0 || i >= kept || what < 0 || what > 3) {
                return NONE;
            }
            int row = nextRow - 1 - i;
            int at = 4 * (row < 0 ? row + EDGES : row) + what;
            return at >= 0 && at < rows.length ? rows[at] : NONE;
        }

        void clear() {
            nextRow = 0;
            kept = 0;
        }
    }

    /** The pins, and the edges that writing them makes. */
    private static final class Pins {
        private final int[] kinds = new int[PINS];
        private final int[] levels = new int[PINS];
        final Edges edges = new Edges();

        Pins() {
            Arrays.fill(kinds, PIN_NONE);
        }

        int kindOf(int pin) {
            return isPin(pin) ? kinds[pin] : PIN_NONE;
        }

        int levelOf(int pin) {
            return isPin(pin) ? levels[pin] : 0;
        }

        boolean name(int pin, int kind) {
            if (!isPin(pin) || kinds[pin] != PIN_NONE) {
                return false;
            }
            int first = pin < BANK ? 0 : BANK;
            for (int i = first; i < first + BANK; i++) {
                if (kinds[i] != PIN_NONE && kinds[i] != kind) {
                    return false;
                }
            }
            kinds[pin] = kind;
            return true;
        }

        /** From outside, by an event: no edge. */
        void drive(int pin, int level) {
            if (isPin(pin)) {
                levels[pin] = level;
            }
        }

        void write(int pin, int level, int tick, int late) {
            if (isPin(pin) && levels[pin] != level) {
                levels[pin] = level;
                edges.append(tick, pin, level, late);
            }
        }

        void reset() {
            Arrays.fill(levels, 0);
            edges.clear();
        }

        /** Without the edges, of which nothing is foretold. */
        void copy(Pins from) {
            System.arraycopy(from.kinds, 0, kinds, 0, PINS);
            System.arraycopy(from.levels, 0, levels, 0, PINS);
        }
    }

    /** What comes to in pins from outside, in the order in which it was told. */
    private static final class Events {
        private final int[] pins = new int[EVENTS];
        private final int[] ticks = new int[EVENTS];
        private final int[] levels = new int[EVENTS];
        int length;

        int append(int pin, int tick, int level) {
            if (length < 0 || length >= EVENTS) {
                return NONE;
            }
            pins[length] = pin;
            ticks[length] = tick;
            levels[length] = level;
            length++;
            return length;
        }

        void comeTo(Pins to, int tick) {
            for (int i = 0; i < length && i < EVENTS; i++) {
                if (ticks[i] == tick) {
                    to.drive(pins[i], levels[i]);
                }
            }
        }
    }

    /** Those that wait at channels; at one channel all send or all take, as two that fit meet at once. */
    private static final class Channels {
        private final int[][] queues = new int[CHANNELS][THREADS];
        private final int[] lengths = new int[CHANNELS];

        int lengthAt(int channel) {
            return channel >= 0 && channel < CHANNELS ? lengths[channel] : 0;
        }

        int firstAt(int channel) {
            if (channel < 0 || channel >= CHANNELS || lengths[channel] < 1) {
                return NONE;
            }
            return queues[channel][0];
        }

        void join(int channel, int thread) {
            if (channel < 0 || channel >= CHANNELS) {
                return;
            }
            int last = lengths[channel];
            if (last >= 0 && last < THREADS) {
                queues[channel][last] = thread;
                lengths[channel] = last + 1;
            }
        }

        void leave(int channel, int thread) {
            if (channel < 0 || channel >= CHANNELS) {
                return;
            }
            int[] queue = queues[channel];
            int stay = 0;
            for (int i = 0; i < lengths[channel] && i < THREADS; i++) {
                if (queue[i] != thread) {
                    queue[stay] = queue[i];
                    stay++;
                }
            }
            lengths[channel] = stay;
        }

        void leaveAll(int thread) {
            for (int channel = 0; channel < CHANNELS; channel++) {
                leave(channel, thread);
            }
        }

        void reset() {
            Arrays.fill(lengths, 0);
        }

        void copy(Channels from) {
            for (int channel = 0; channel < CHANNELS; channel++) {
                System.arraycopy(from.queues[channel], 0, queues[channel], 0, THREADS);
            }
            System.arraycopy(from.lengths, 0, lengths, 0, CHANNELS);
        }
    }

    /** The slots by which turns go round. */
    private static final class Table {
        final int[] owners = new int[SLOTS];
        int length = 1;

        Table() {
            Arrays.fill(owners, NONE);
        }

        boolean has(int slot) {
            return slot >= 0 && slot < length && slot < SLOTS;
        }

        int ownerAt(int tick) {
            if (length < 1) {
                return NONE;
            }
            int slot = tick % length;
            return has(slot) ? owners[slot] : NONE;
        }

        int resize(int n) {
            int before = length;
            for (int slot = before; slot < n && slot < SLOTS; slot++) {
                owners[slot] = NONE;
            }
            length = n;
            return before;
        }

        int owned(int thread) {
            int own = 0;
            for (int slot = 0; slot < SLOTS && has(slot); slot++) {
                if (owners[slot] == thread) {
                    own++;
                }
            }
            return own;
        }

        /** Best or worst ticks of so many turns; NONE for too few, too many, or without a slot. */
        int ticksOf(int thread, int turns, boolean worst) {
            int own = owned(thread);
            if (own < 1 || turns < 1 || turns > MOST_TURNS) {
                return NONE;
            }
            int wholeTables = (turns - 1) / own;
            int rest = turns - wholeTables * own;
            int answer = ticksFrom(0, thread, rest);
            for (int begin = 1; begin < length; begin++) {
                int ticks = ticksFrom(begin, thread, rest);
                answer = worst ? Math.max(answer, ticks) : Math.min(answer, ticks);
            }
            return wholeTables * length + answer;
        }

        private int ticksFrom(int begin, int thread, int turns) {
            int seen = 0;
            for (int ticks = 1; ticks <= length; ticks++) {
                if (ownerAt(begin + ticks - 1) == thread) {
                    seen++;
                }
                if (seen == turns) {
                    return ticks;
                }
            }
            return length;
        }
    }

    /** All that ticks change; table and events are told from outside and shared. */
    private static final class Machine {
        final Strand[] strands = new Strand[THREADS];
        final Pins pins = new Pins();
        final Channels channels = new Channels();
        private final Table table;
        private final Events events;
        int now;
        int lost;
        int given;
        int done;
        int late;
        int lastGiven = NONE;
        int passed;

        Machine(Table table, Events events) {
            this.table = table;
            this.events = events;
            for (int thread = 0; thread < THREADS; thread++) {
                strands[thread] = new Strand(thread);
            }
        }

        void copy(Machine from) {
            for (int thread = 0; thread < THREADS; thread++) {
                strands[thread].copy(from.strands[thread]);
            }
            pins.copy(from.pins);
            channels.copy(from.channels);
            now = from.now;
            lost = from.lost;
            given = from.given;
            done = from.done;
            late = from.late;
            lastGiven = from.lastGiven;
            passed = from.passed;
        }

        void reset() {
            for (int thread = 0; thread < THREADS; thread++) {
                strands[thread].reset();
            }
            pins.reset();
            channels.reset();
            now = 0;
            lost = 0;
            given = 0;
            done = 0;
            late = 0;
            lastGiven = NONE;
            passed = 0;
        }

        int empty(int thread) {
            if (!isThread(thread)) {
                return NONE;
            }
            int had = strands[thread].code.length;
            channels.leaveAll(thread);
            strands[thread].empty();
            return had;
        }

        /** Answers the thread that did an instruction, or NONE. */
        int tick() {
            events.comeTo(pins, now);
            for (int thread = 0; thread < THREADS; thread++) {
                Strand strand = strands[thread];
                if (strand.state == WAITS && strand.errand.until == now) {
                    wake(strand);
                }
            }
            int thread = whoseTurn();
            if (isThread(thread)) {
                perform(strands[thread]);
            }
            now++;
            return thread;
        }

        private void wake(Strand strand) {
            Errand errand = strand.errand;
            if (errand.kind == OUTAT) {
                pins.write(errand.port, errand.value, now, 0);
            } else if (errand.kind == INAT) {
                strand.write(errand.register, pins.levelOf(errand.port));
            }
            strand.state = READY;
        }

        private int whoseTurn() {
            int owner = table.ownerAt(now);
            if (isThread(owner) && strands[owner].canGo()) {
                return owner;
            }
            int thread = lastGiven;
            for (int i = 0; i < THREADS; i++) {
                thread = thread + 1 < THREADS ? thread + 1 : 0;
                if (isThread(thread) && !strands[thread].isHard && strands[thread].canGo()) {
                    strands[thread].given++;
                    given++;
                    lastGiven = thread;
                    return thread;
                }
            }
            lost++;
            return NONE;
        }

        private void perform(Strand strand) {
            Code code = strand.code;
            int at = strand.place;
            if (!code.has(at)) {
                return;
            }
            int kind = code.kinds[at];
            int x = code.xs[at];
            int y = code.ys[at];
            int z = code.zs[at];
            strand.done++;
            done++;
            int trap = trapOf(strand, kind, x, y);
            if (trap != NO_TRAP) {
                strand.stopBy(trap);
                return;
            }
            strand.goTo(strand.next(kind, x, y));
            if (kind >= OUT && kind <= TAKE) {
                meetOthers(strand, kind, x, y, z);
            } else {
                strand.compute(kind, x, y, z);
            }
        }

        private int trapOf(Strand strand, int kind, int x, int y) {
            if (kind == LOAD || kind == STORE) {
                if (strand.cellCount == NONE) {
                    return TRAP_NO_MEMORY;
                }
                return strand.hasCell(strand.read(y)) ? NO_TRAP : TRAP_OUTSIDE;
            }
            if (kind == OUT || kind == OUTAT) {
                if (pins.kindOf(x) != PIN_OUT) {
                    return TRAP_PIN;
                }
                return kind == OUTAT && isClaimed(x) ? TRAP_CLAIMED : NO_TRAP;
            }
            if (kind == IN || kind == INAT) {
                return pins.kindOf(x) == PIN_IN ? NO_TRAP : TRAP_PIN;
            }
            return NO_TRAP;
        }

        private boolean isClaimed(int pin) {
            for (int thread = 0; thread < THREADS; thread++) {
                Strand strand = strands[thread];
                if (strand.state == WAITS && strand.errand.kind == OUTAT && strand.errand.port == pin) {
                    return true;
                }
            }
            return false;
        }

        /** An instruction at pins, at channels or by the time. */
        private void meetOthers(Strand strand, int kind, int x, int y, int z) {
            switch (kind) {
                case OUT:
                    pins.write(x, strand.read(y) & 1, now, 0);
                    break;
                case OUTAT:
                    writeAt(strand, x, strand.read(y) & 1, strand.read(z));
                    break;
                case IN:
                    strand.write(y, pins.levelOf(x));
                    break;
                case INAT:
                    readAt(strand, x, y, strand.read(z));
                    break;
                case WAIT:
                    if (strand.read(x) > now) {
                        waitTill(strand, WAIT, strand.read(x));
                    }
                    break;
                case CLOCK:
                    strand.write(x, now);
                    break;
                case SEND:
                    send(strand, x, strand.read(y));
                    break;
                case TAKE:
                    take(strand, x, y);
                    break;
                default:
                    break;
            }
        }

        private void waitTill(Strand strand, int kind, int tick) {
            strand.errand.kind = kind;
            strand.errand.until = tick;
            strand.state = WAITS;
        }

        /** Answers 1 if it is late, as an edge tells it. */
        private int noteLate(Strand strand, int tick) {
            if (tick >= now) {
                return 0;
            }
            strand.late++;
            late++;
            return 1;
        }

        private void writeAt(Strand strand, int pin, int level, int tick) {
            if (tick > now) {
                strand.errand.port = pin;
                strand.errand.value = level;
                waitTill(strand, OUTAT, tick);
                return;
            }
            pins.write(pin, level, now, noteLate(strand, tick));
        }

        private void readAt(Strand strand, int pin, int register, int tick) {
            if (tick > now) {
                strand.errand.port = pin;
                strand.errand.register = register;
                waitTill(strand, INAT, tick);
                return;
            }
            noteLate(strand, tick);
            strand.write(register, pins.levelOf(pin));
        }

        private void send(Strand strand, int channel, int v) {
            Strand taker = firstAt(channel, TAKES);
            if (taker == null) {
                strand.errand.value = v;
                strand.state = SENDS;
                channels.join(channel, strand.number);
                return;
            }
            taker.write(taker.errand.register, v);
            release(channel, taker);
        }

        private void take(Strand strand, int channel, int register) {
            Strand sender = firstAt(channel, SENDS);
            if (sender == null) {
                strand.errand.register = register;
                strand.state = TAKES;
                channels.join(channel, strand.number);
                return;
            }
            strand.write(register, sender.errand.value);
            release(channel, sender);
        }

        private Strand firstAt(int channel, int state) {
            int first = channels.firstAt(channel);
            if (!isThread(first)) {
                return null;
            }
            return strands[first].state == state ? strands[first] : null;
        }

        private void release(int channel, Strand strand) {
            channels.leave(channel, strand.number);
            strand.state = READY;
            passed++;
        }

        int howManyAt(int channel, int state) {
            return firstAt(channel, state) == null ? 0 : channels.lengthAt(channel);
        }

        int trapped() {
            int bits = 0;
            for (int thread = 0; thread < THREADS; thread++) {
                if (strands[thread].state == TRAPPED) {
                    bits |= 1 << thread;
                }
            }
            return bits;
        }
    }

    /** What is proved of a code by counting alone. */
    private static final class Counter {
        /** Instructions done ahead of each place, as it is first come to; NONE where no way leads. */
        private final int[] reached = new int[PLACES + 1];

        boolean isPlain(Code code) {
            for (int place = 0; place < PLACES && code.has(place); place++) {
                int kind = code.kinds[place];
                if (!isPlainKind(kind)) {
                    return false;
                }
                if ((kind == JUMP || kind == BRANCH) && !leapsWell(code, place)) {
                    return false;
                }
                if (kind == LOOP && !nestsWell(code, place)) {
                    return false;
                }
            }
            return code.length > 0;
        }

        private static boolean isPlainKind(int kind) {
            return kind <= OUT || kind == IN || kind == CLOCK || kind == RATIO || kind == PART;
        }

        private static boolean leapsWell(Code code, int from) {
            int to = code.ys[from];
            for (int last = 0; last < PLACES && code.has(last); last++) {
                if (code.kinds[last] != LOOP) {
                    continue;
                }
                int first = code.ys[last];
                boolean within = from >= first && from <= last;
                if (within ? to > last : to > first && to <= last) {
                    return false;
                }
            }
            return to > from;
        }

        private static boolean nestsWell(Code code, int last) {
            int first = code.ys[last];
            for (int inner = 0; inner < last && code.has(inner); inner++) {
                boolean crosses = first > code.ys[inner] && first <= inner;
                if (code.kinds[inner] == LOOP && crosses) {
                    return false;
                }
            }
            return true;
        }

        /** Of a plain code alone: each way leads ahead there, and a loop is entered at its first place. */
        int ofRound(Code code, boolean most) {
            Arrays.fill(reached, NONE);
            reached[0] = 0;
            for (int place = 0; place < PLACES && code.has(place); place++) {
                if (reached[place] == NONE) {
                    continue;
                }
                int kind = code.kinds[place];
                int behind = kind == LOOP ? behindLoop(code, place) : reached[place] + 1;
                if (kind != JUMP) {
                    comeTo(place + 1, behind, most);
                }
                if (kind == JUMP || kind == BRANCH) {
                    comeTo(Math.min(code.ys[place], code.length), behind, most);
                }
            }
            return code.length >= 0 && code.length <= PLACES ? reached[code.length] : NONE;
        }

        private int behindLoop(Code code, int last) {
            int first = code.ys[last];
            if (first < 0 || first > last) {
                return reached[last] + 1;
            }
            int onePass = reached[last] - reached[first] + 1;
            return reached[first] + (code.xs[last] + 1) * onePass;
        }

        /** Capped at each step, which keeps what is above the cap above it. */
        private void comeTo(int place, int instructions, boolean most) {
            if (place < 0 || place > PLACES) {
                return;
            }
            int capped = Math.min(instructions, MOST_INSTRUCTIONS);
            int before = reached[place];
            if (before == NONE || (most ? capped > before : capped < before)) {
                reached[place] = capped;
            }
        }
    }

    /** Looks for a table that keeps all asked gaps. */
    private static final class Finder {
        private static final int FOUND = 0;
        private static final int TOO_MUCH = 1;
        private static final int MISSED = 2;
        private static final int NO_PERIOD = 3;
        private static final int LAST = 64;
        /** A multiple of 1 to 16, so that shares of it are whole. */
        private static final int WHOLE = 720720;

        private final int[] limits = new int[THREADS];
        /** What the limits less t were, a row of all threads for each t. */
        private final int[] left = new int[(LAST + 1) * THREADS];
        private final int[] owners = new int[LAST + 1];

        int find(int[] gaps, Table table) {
            int sum = 0;
            for (int thread = 0; thread < THREADS; thread++) {
                limits[thread] = gaps[thread];
                sum += gaps[thread] > 0 ? WHOLE / gaps[thread] : 0;
            }
            if (sum > WHOLE) {
                return TOO_MUCH;
            }
            if (sum == 0) {
                table.length = 1;
                table.owners[0] = NONE;
                return FOUND;
            }
            return search(gaps, table);
        }

        private int search(int[] gaps, Table table) {
            for (int t = 0; t <= LAST; t++) {
                note(gaps, t);
                int period = periodAt(t);
                if (period != NONE) {
                    fill(table, t - period, period);
                    return FOUND;
                }
                int thread = leastLimit(gaps);
                if (!isThread(thread) || limits[thread] <= t) {
                    return MISSED;
                }
                owners[t] = thread;
                limits[thread] = t + 1 + gaps[thread];
            }
            return NO_PERIOD;
        }

        private void note(int[] gaps, int t) {
            for (int thread = 0; thread < THREADS; thread++) {
                left[t * THREADS + thread] = gaps[thread] > 0 ? limits[thread] - t : 0;
            }
        }

        private int periodAt(int t) {
            for (int period = 1; period <= SLOTS && period <= t; period++) {
                if (isSame(t, t - period)) {
                    return period;
                }
            }
            return NONE;
        }

        private boolean isSame(int t, int earlier) {
            for (int thread = 0; thread < THREADS; thread++) {
                if (left[t * THREADS + thread] != left[earlier * THREADS + thread]) {
                    return false;
                }
            }
            return true;
        }

        private int leastLimit(int[] gaps) {
            int least = NONE;
            for (int thread = 0; thread < THREADS; thread++) {
                if (gaps[thread] > 0 && (least == NONE || limits[thread] < limits[least])) {
                    least = thread;
                }
            }
            return least;
        }

        private void fill(Table table, int from, int period) {
            for (int slot = 0; slot < period && slot < SLOTS; slot++) {
                table.owners[slot] = owners[from + slot];
            }
            table.length = period;
        }
    }
}
