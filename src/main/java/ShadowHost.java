import java.util.Arrays;

/**
 * A small RV32IM machine whose programs run under watch: of each octet it is known whether it may be
 * touched, of each bit whether it was ever given. Words in capitals are those of the document.
 */
public final class ShadowHost {
    private static final int IMAGE_END = 16384;
    private static final int HEAP_START = 32768;
    private static final int HEAP_END = 57344;
    private static final int STACK_START = 57344;
    private static final int MEMORY_END = 65536;
    private static final int REGISTERS = 32;
    private static final int MOST_AT_ONCE = 100000;

    private final Machine machine;

    public ShadowHost() {
        machine = new Machine();
    }

    public void image(int at, long w) throws IllegalArgumentException {
        if (at < 0 || at > IMAGE_END - 8 || (at & 7) != 0) {
            throw new IllegalArgumentException();
        }
        machine.memory.keepImage(at, w);
    }

    public int input(long w, int n) throws IllegalArgumentException, IndexOutOfBoundsException {
        if (n < 1 || n > 8) {
            throw new IllegalArgumentException();
        }
        Ports ports = machine.host.ports;
        if (n > Ports.MOST_IN - ports.put) {
            throw new IndexOutOfBoundsException();
        }
        ports.putIn(w, n);
        return ports.put;
    }

    public void begin() {
        machine.reset();
    }

    public int run(int n) throws IllegalArgumentException {
        if (n < 0 || n > MOST_AT_ONCE) {
            throw new IllegalArgumentException();
        }
        for (int i = 0; i < n && machine.ended == Machine.GOES_ON; i++) {
            if (machine.fetch()) {
                machine.perform();
            }
        }
        return machine.ended;
    }

    public int register(int k) throws IndexOutOfBoundsException {
        if (k < 0 || k >= REGISTERS) {
            throw new IndexOutOfBoundsException();
        }
        return machine.registers.value[k];
    }

    public int unknown(int k) throws IndexOutOfBoundsException {
        if (k < 0 || k >= REGISTERS) {
            throw new IndexOutOfBoundsException();
        }
        return machine.registers.ungiven[k];
    }

    public int memory(int at) throws IndexOutOfBoundsException {
        if (at < 0 || at >= MEMORY_END) {
            throw new IndexOutOfBoundsException();
        }
        return machine.memory.cells[at];
    }

    public int error(int k, int what) throws IllegalArgumentException, IndexOutOfBoundsException {
        if (what < 0 || what >= Report.ROW) {
            throw new IllegalArgumentException();
        }
        if (k < 0 || k >= machine.report.told) {
            throw new IndexOutOfBoundsException();
        }
        return machine.report.rows[k * Report.ROW + what];
    }

    public int output(int k) throws IndexOutOfBoundsException {
        Ports ports = machine.host.ports;
        if (k < 0 || k >= ports.sent) {
            throw new IndexOutOfBoundsException();
        }
        return ports.outgoing[k];
    }

    public int count(int what) throws IllegalArgumentException {
        Host host = machine.host;
        switch (what) {
            case 0: return machine.ended;
            case 1: return machine.result;
            case 2: return machine.pc;
            case 3: return machine.done;
            case 4: return machine.report.told;
            case 5: return machine.report.all;
            case 6: return host.ports.sent;
            case 7: return host.heap.liveBlocks;
            case 8: return host.heap.keptBlocks;
            case 9: return host.heap.liveOctets;
            case 10: return machine.report.returns;
            default: throw new IllegalArgumentException();
        }
    }

    /**
     * MEMORY with its SHADOWS. A cell is an octet, its bits that are not GIVEN times 256, and OPEN:
     * one row instead of three, and the form in which the face tells it.
     */
    private static final class Memory {
        static final int OPEN = 65536;
        static final int UNGIVEN = 0xFF00;

        final int[] cells = new int[MEMORY_END];
        // Cells too, so that a new begin is one copy.
        private final int[] image = new int[IMAGE_END];

        Memory() {
            Arrays.fill(image, OPEN);
            reset();
        }

        void keepImage(int at, long w) {
            for (int i = 0; i < 8; i++) {
                image[at + i] = OPEN | ((int) (w >>> (8 * i)) & 0xFF);
            }
        }

        void reset() {
            System.arraycopy(image, 0, cells, 0, IMAGE_END);
            Arrays.fill(cells, IMAGE_END, STACK_START, 0);
            Arrays.fill(cells, STACK_START, MEMORY_END, OPEN | UNGIVEN);
        }

        /** The four octets at an address that the caller has found to lie in MEMORY. */
        int word(int at) {
            return (cells[at] & 0xFF) | (cells[at + 1] & 0xFF) << 8
                    | (cells[at + 2] & 0xFF) << 16 | cells[at + 3] << 24;
        }

        boolean isOpenWord(int at) {
            return (cells[at] & cells[at + 1] & cells[at + 2] & cells[at + 3] & OPEN) != 0;
        }

        boolean isGivenWord(int at) {
            return ((cells[at] | cells[at + 1] | cells[at + 2] | cells[at + 3]) & UNGIVEN) == 0;
        }

        /** The first of n octets that is not OPEN, -1 if all are. */
        int firstShut(int at, int n) {
            for (int i = 0; i < n; i++) {
                if ((cells[at + i] & OPEN) == 0) {
                    return at + i;
                }
            }
            return -1;
        }

        int read(int at, int n) {
            int value = 0;
            for (int i = 0; i < n; i++) {
                value |= (cells[at + i] & 0xFF) << (8 * i);
            }
            return value;
        }

        /** What is not OPEN is read as GIVEN: the ERROR 4 tells of it already. */
        int readUngiven(int at, int n) {
            int ungiven = 0;
            for (int i = 0; i < n; i++) {
                int cell = cells[at + i];
                if ((cell & OPEN) != 0) {
                    ungiven |= (cell >>> 8 & 0xFF) << (8 * i);
                }
            }
            return ungiven;
        }

        void write(int at, int n, int value, int ungiven) {
            for (int i = 0; i < n; i++) {
                int octet = value >>> (8 * i) & 0xFF;
                int shadow = ungiven >>> (8 * i) & 0xFF;
                cells[at + i] = (cells[at + i] & OPEN) | shadow << 8 | octet;
            }
        }

        void handOut(int at, int n) {
            for (int i = 0; i < n; i++) {
                cells[at + i] = (cells[at + i] & 0xFF) | OPEN | UNGIVEN;
            }
        }

        void shut(int at, int n) {
            for (int i = 0; i < n; i++) {
                cells[at + i] = cells[at + i] & 0xFF;
            }
        }

        void move(int from, int to, int n) {
            System.arraycopy(cells, from, cells, to, n);
        }
    }

    /** The registers, each with its bits that are not GIVEN. */
    private static final class Registers {
        private static final int STACK_POINTER = 2;

        final int[] value = new int[REGISTERS];
        final int[] ungiven = new int[REGISTERS];

        Registers() {
            reset();
        }

        void reset() {
            Arrays.fill(value, 0);
            Arrays.fill(ungiven, -1);
            ungiven[0] = 0;
            value[STACK_POINTER] = MEMORY_END;
            ungiven[STACK_POINTER] = 0;
        }

        void put(int d, int number, int shadow) {
            if (d != 0) {
                value[d] = number;
                ungiven[d] = shadow;
            }
        }
    }

    /** The ERRORS that came, and the RETURNS that are told with them. */
    private static final class Report {
        static final int SHUT_INSTRUCTION = 1;
        static final int UNGIVEN_BRANCH = 2;
        static final int UNGIVEN_ADDRESS = 3;
        static final int SHUT_DATA = 4;
        static final int UNGIVEN_CALL = 5;
        static final int KEPT_BLOCK = 6;
        static final int NO_BLOCK = 7;
        static final int LOST_BLOCK = 8;
        static final int ROW = 7;
        private static final int MOST_TOLD = 60;
        private static final int MOST_RETURNS = 32;
        private static final int RETURNS_TOLD = 4;

        final int[] rows = new int[MOST_TOLD * ROW];
        int told;
        int all;
        // A ring: the oldest one goes when it is full.
        private final int[] ring = new int[MOST_RETURNS];
        private int top;
        int returns;

        void reset() {
            told = 0;
            all = 0;
            top = 0;
            returns = 0;
        }

        void note(int which, int pc, int number) {
            all++;
            if (told < MOST_TOLD && !wasTold(which, pc)) {
                tell(which, pc, number);
            }
        }

        /** Each LOST BLOCK is told, though all have the PC of the EXIT. */
        void noteLost(int pc, int address) {
            all++;
            if (told < MOST_TOLD) {
                tell(LOST_BLOCK, pc, address);
            }
        }

        private boolean wasTold(int which, int pc) {
            for (int k = 0; k < told; k++) {
                if (rows[k * ROW] == which && rows[k * ROW + 1] == pc) {
                    return true;
                }
            }
            return false;
        }

        private void tell(int which, int pc, int number) {
            int row = told * ROW;
            rows[row] = which;
            rows[row + 1] = pc;
            rows[row + 2] = number;
            for (int i = 0; i < RETURNS_TOLD; i++) {
                rows[row + 3 + i] = i < returns ? ring[(top - 1 - i) & (MOST_RETURNS - 1)] : 0;
            }
            told++;
        }

        void pushReturn(int address) {
            ring[top] = address;
            top = (top + 1) & (MOST_RETURNS - 1);
            if (returns < MOST_RETURNS) {
                returns++;
            }
        }

        void popReturn() {
            if (returns > 0) {
                top = (top - 1) & (MOST_RETURNS - 1);
                returns--;
            }
        }
    }

    /** The octets that are put in, which outlive a begin, and those that are put out. */
    private static final class Ports {
        static final int MOST_IN = 1024;
        private static final int MOST_OUT = 4096;

        private final int[] incoming = new int[MOST_IN];
        int put;
        private int taken;
        final int[] outgoing = new int[MOST_OUT];
        int sent;

        void reset() {
            taken = 0;
            sent = 0;
        }

        /** The caller has seen that there is room. */
        void putIn(long w, int n) {
            for (int i = 0; i < n; i++) {
                incoming[put + i] = (int) (w >>> (8 * i)) & 0xFF;
            }
            put += n;
        }

        int takeIn() {
            if (taken >= put) {
                return -1;
            }
            taken++;
            return incoming[taken - 1];
        }

        void putOut(int octet) {
            if (sent < MOST_OUT) {
                outgoing[sent] = octet;
                sent++;
            }
        }
    }

    /**
     * Which octets of THE HEAP the BLOCKS take. All stands at multiples of 16, so the rows go by units
     * of 16 octets; what is known of a BLOCK lies at its first unit.
     */
    private static final class Heap {
        static final int NONE = 0;
        static final int LIVE = 1;
        static final int KEPT = 2;
        private static final int UNIT = 16;
        static final int UNITS = (HEAP_END - HEAP_START) / UNIT;
        private static final int MOST_OCTETS = 16384;
        private static final int MOST_KEPT = 2048;

        // The first unit of the BLOCK that takes this one, and 1 more; 0: none takes it.
        private final int[] owner = new int[UNITS];
        private final int[] size = new int[UNITS];
        private final int[] state = new int[UNITS];
        // A ring of first units, the oldest KEPT one first.
        private final int[] line = new int[UNITS];
        private int oldest;
        private int keptOctets;
        int keptBlocks;
        int liveBlocks;
        int liveOctets;
        private final int[] isFound = new int[UNITS];
        final int[] found = new int[UNITS];
        int foundBlocks;

        void reset() {
            Arrays.fill(owner, 0);
            Arrays.fill(state, NONE);
            oldest = 0;
            keptOctets = 0;
            keptBlocks = 0;
            liveBlocks = 0;
            liveOctets = 0;
        }

        /** The address of a new LIVE BLOCK of n octets, 0 if there is no room. */
        int take(int n) {
            if (n < 0 || n > MOST_OCTETS) {
                return 0;
            }
            int units = n == 0 ? 1 : (n + UNIT - 1) / UNIT;
            int first = findRoom(units);
            if (first == 0) {
                return 0;
            }
            Arrays.fill(owner, first, first + units, first + 1);
            size[first] = n;
            state[first] = LIVE;
            liveBlocks++;
            liveOctets += n;
            return HEAP_START + first * UNIT;
        }

        /** Red zones may be shared: only units that a BLOCK takes stand in the way. 0: no room. */
        private int findRoom(int units) {
            int clear = 0;
            for (int unit = 0; unit < UNITS; unit++) {
                clear = owner[unit] == 0 ? clear + 1 : 0;
                if (clear == units + 2) {
                    return unit - units;
                }
            }
            return 0;
        }

        /** Whether a BLOCK stands at just this address: NONE, LIVE or KEPT. */
        int stateAt(int address) {
            if (address < HEAP_START || address >= HEAP_END || address % UNIT != 0) {
                return NONE;
            }
            return state[(address - HEAP_START) / UNIT];
        }

        /** The octets of the BLOCK that stands at this address, 0 if there is none. */
        int sizeAt(int address) {
            return stateAt(address) == NONE ? 0 : size[(address - HEAP_START) / UNIT];
        }

        /**
         * A LIVE BLOCK becomes KEPT, and the oldest KEPT ones free, while they have too much. Tells how
         * many octets it had, which nobody can ask for if it itself is free already.
         */
        int keep(int address) {
            if (stateAt(address) != LIVE) {
                return 0;
            }
            int first = (address - HEAP_START) / UNIT;
            state[first] = KEPT;
            liveBlocks--;
            liveOctets -= size[first];
            line[(oldest + keptBlocks) % UNITS] = first;
            keptBlocks++;
            keptOctets += size[first];
            for (int left = keptBlocks; left > 0 && keptOctets > MOST_KEPT; left--) {
                freeOldest();
            }
            return size[first];
        }

        private void freeOldest() {
            int first = line[oldest];
            oldest = (oldest + 1) % UNITS;
            keptBlocks--;
            keptOctets -= size[first];
            state[first] = NONE;
            for (int unit = first; unit < UNITS && owner[unit] == first + 1; unit++) {
                owner[unit] = 0;
            }
        }

        void forgetFound() {
            Arrays.fill(isFound, 0);
            foundBlocks = 0;
        }

        /** The LIVE BLOCK that this is an address of, if there is one, is FOUND. */
        void find(int address) {
            if (address < HEAP_START || address >= HEAP_END) {
                return;
            }
            int first = owner[(address - HEAP_START) / UNIT] - 1;
            if (first < 0 || state[first] != LIVE || isFound[first] != 0) {
                return;
            }
            int offset = address - HEAP_START - first * UNIT;
            // A BLOCK of no octets has its first address all the same.
            if (offset < size[first] || offset == 0) {
                isFound[first] = 1;
                found[foundBlocks] = HEAP_START + first * UNIT;
                foundBlocks++;
            }
        }

        /** The address of the LIVE BLOCK that begins with this unit and was not FOUND, else 0. */
        int lostAt(int unit) {
            return state[unit] == LIVE && isFound[unit] == 0 ? HEAP_START + unit * UNIT : 0;
        }
    }

    /** What answers the CALLS of a program. */
    private static final class Host {
        static final int EXIT = 1;
        private static final int MAKE = 2;
        private static final int GIVE_BACK = 3;
        private static final int REMAKE = 4;
        private static final int PUT_OUT = 5;
        private static final int TAKE_IN = 6;
        static final int FIRST = 10;
        private static final int SECOND = 11;
        static final int WHICH = 17;

        final Heap heap = new Heap();
        final Ports ports = new Ports();

        void reset() {
            heap.reset();
            ports.reset();
        }

        /** The register that the CALL uses though it is not all GIVEN, the first of them; 0: none. */
        static int ungivenRegister(Registers registers) {
            int[] ungiven = registers.ungiven;
            int call = registers.value[WHICH];
            if (ungiven[WHICH] != 0) {
                return WHICH;
            }
            if (call < EXIT || call > PUT_OUT) {
                return 0;
            }
            if ((ungiven[FIRST] & (call == PUT_OUT ? 0xFF : -1)) != 0) {
                return FIRST;
            }
            return call == REMAKE && ungiven[SECOND] != 0 ? SECOND : 0;
        }

        /** Every CALL but the EXIT, which the machine itself must end with. */
        void serve(int pc, Registers registers, Memory memory, Report report) {
            int first = registers.value[FIRST];
            switch (registers.value[WHICH]) {
                case MAKE:
                    registers.put(FIRST, remake(0, first, pc, memory, report), 0);
                    break;
                case GIVE_BACK:
                    if (first != 0 && isLive(first, pc, report)) {
                        memory.shut(first, heap.keep(first));
                    }
                    break;
                case REMAKE:
                    registers.put(FIRST, remake(first, registers.value[SECOND], pc, memory, report), 0);
                    break;
                case PUT_OUT:
                    ports.putOut(first & 0xFF);
                    break;
                case TAKE_IN:
                    registers.put(FIRST, ports.takeIn(), 0);
                    break;
                default:
                    registers.put(FIRST, -1, 0);
                    break;
            }
        }

        /** Whether a LIVE BLOCK stands there; tells the ERROR if not. */
        private boolean isLive(int address, int pc, Report report) {
            int state = heap.stateAt(address);
            if (state == Heap.LIVE) {
                return true;
            }
            report.note(state == Heap.KEPT ? Report.KEPT_BLOCK : Report.NO_BLOCK, pc, address);
            return false;
        }

        /** The address of a BLOCK of n octets in place of the old one (0: of none); 0: there is none. */
        private int remake(int old, int n, int pc, Memory memory, Report report) {
            if (old != 0 && !isLive(old, pc, report)) {
                return 0;
            }
            int address = heap.take(n);
            if (address == 0) {
                return 0;
            }
            memory.handOut(address, n);
            if (old != 0) {
                memory.move(old, address, Math.min(n, heap.sizeAt(old)));
                memory.shut(old, heap.keep(old));
            }
            return address;
        }

        void tellLost(int pc, Registers registers, Memory memory, Report report) {
            if (heap.liveBlocks == 0) {
                return;
            }
            findBlocks(registers, memory);
            for (int unit = 0; unit < Heap.UNITS; unit++) {
                int address = heap.lostAt(unit);
                if (address != 0) {
                    report.noteLost(pc, address);
                }
            }
        }

        private void findBlocks(Registers registers, Memory memory) {
            heap.forgetFound();
            for (int k = 0; k < REGISTERS; k++) {
                if (registers.ungiven[k] == 0) {
                    heap.find(registers.value[k]);
                }
            }
            // Between the IMAGE and THE HEAP no octet is ever OPEN.
            findFrom(0, IMAGE_END, memory);
            findFrom(STACK_START, MEMORY_END, memory);
            // The row grows as this goes: what a FOUND BLOCK holds is looked at in its turn.
            for (int i = 0; i < Heap.UNITS && i < heap.foundBlocks; i++) {
                int address = heap.found[i];
                findFrom(address, address + heap.sizeAt(address), memory);
            }
        }

        private void findFrom(int from, int end, Memory memory) {
            for (int at = from; at <= end - 4; at += 4) {
                if (memory.isOpenWord(at) && memory.isGivenWord(at)) {
                    heap.find(memory.word(at));
                }
            }
        }
    }

    /** The parts of an INSTRUCTION. */
    private static final class Word {
        static int d(int w) {
            return w >>> 7 & 31;
        }

        static int f(int w) {
            return w >>> 12 & 7;
        }

        static int a(int w) {
            return w >>> 15 & 31;
        }

        static int b(int w) {
            return w >>> 20 & 31;
        }

        static int g(int w) {
            return w >>> 25;
        }

        static int upper(int w) {
            return w & 0xFFFFF000;
        }

        static int immediate(int w) {
            return w >> 20;
        }

        static int storeOffset(int w) {
            return w >> 25 << 5 | (w >>> 7 & 31);
        }

        static int branchOffset(int w) {
            return w >> 31 << 12 | (w >>> 7 & 1) << 11 | (w >>> 25 & 63) << 5 | (w >>> 8 & 15) << 1;
        }

        static int jumpOffset(int w) {
            return w >> 31 << 20 | (w & 0xFF000) | (w >>> 20 & 1) << 11 | (w >>> 21 & 1023) << 1;
        }
    }

    /** What the INSTRUCTIONS 0x13 and 0x33 reckon, and which bits of it are GIVEN. */
    private static final class Reckoner {
        // F, and 8 more with G 0x20, 16 more with G 1.
        static final int NONE = -1;
        private static final int ADD = 0;
        static final int LEFT = 1;
        private static final int BELOW = 2;
        private static final int BELOW_UNSIGNED = 3;
        private static final int EXCLUSIVE_OR = 4;
        static final int RIGHT = 5;
        private static final int OR = 6;
        private static final int AND = 7;
        private static final int SUBTRACT = 8;
        static final int RIGHT_SIGNED = 13;
        private static final int PRODUCT = 16;
        private static final int UPPER = 17;
        private static final int UPPER_MIXED = 18;
        private static final int UPPER_UNSIGNED = 19;
        private static final int QUOTIENT = 20;
        private static final int QUOTIENT_UNSIGNED = 21;
        private static final int REST = 22;
        private static final long LOW_32 = 0xFFFFFFFFL;

        static int kind(int f, int g) {
            if (g == 0) {
                return f;
            }
            if (g == 1) {
                return PRODUCT + f;
            }
            return g == 0x20 && (f == ADD || f == RIGHT) ? SUBTRACT + f : NONE;
        }

        static int kindOfShift(int f, int g) {
            if (g == 0) {
                return f;
            }
            return g == 0x20 && f == RIGHT ? RIGHT_SIGNED : NONE;
        }

        static boolean isBelow(int a, int b) {
            return a < b;
        }

        static boolean isBelowUnsigned(int a, int b) {
            return (a & LOW_32) < (b & LOW_32);
        }

        static int value(int kind, int a, int b) {
            switch (kind) {
                case ADD: return a + b;
                case LEFT: return a << (b & 31);
                case BELOW: return isBelow(a, b) ? 1 : 0;
                case BELOW_UNSIGNED: return isBelowUnsigned(a, b) ? 1 : 0;
                case EXCLUSIVE_OR: return a ^ b;
                case RIGHT: return a >>> (b & 31);
                case OR: return a | b;
                case AND: return a & b;
                case SUBTRACT: return a - b;
                case RIGHT_SIGNED: return a >> (b & 31);
                case PRODUCT: return a * b;
                case UPPER: return (int) ((long) a * b >> 32);
                case UPPER_MIXED: return (int) (a * (b & LOW_32) >> 32);
                case UPPER_UNSIGNED: return (int) ((a & LOW_32) * (b & LOW_32) >>> 32);
                case QUOTIENT: return quotient(a, b);
                case QUOTIENT_UNSIGNED: return quotient(a & LOW_32, b & LOW_32);
                case REST: return rest(a, b);
                default: return rest(a & LOW_32, b & LOW_32);
            }
        }

        // As long numbers, so that -2 ** 31 by -1 needs no case of its own.
        private static int quotient(long a, long b) {
            return b == 0 ? -1 : (int) (a / b);
        }

        private static int rest(long a, long b) {
            return b == 0 ? (int) a : (int) (a % b);
        }

        static int ungiven(int kind, int a, int ungivenA, int b, int ungivenB) {
            int either = ungivenA | ungivenB;
            if (either == 0) {
                return 0;
            }
            switch (kind) {
                case ADD:
                case SUBTRACT:
                    // A carry may come from the lowest such bit, so all above are in doubt.
                    return either | -either;
                case AND:
                    return either & (a | ungivenA) & (b | ungivenB);
                case OR:
                    return either & (~a | ungivenA) & (~b | ungivenB);
                case EXCLUSIVE_OR:
                    return either;
                case LEFT:
                case RIGHT:
                case RIGHT_SIGNED:
                    return (ungivenB & 31) != 0 ? -1 : value(kind, ungivenA, b);
                case BELOW:
                case BELOW_UNSIGNED:
                    return 1;
                default:
                    return -1;
            }
        }
    }

    /** The machine: it does one INSTRUCTION after the other and watches it. */
    private static final class Machine {
        static final int GOES_ON = 0;
        private static final int EXITED = 1;
        private static final int TRAPPED = 2;
        private static final int NO_INSTRUCTION_THERE = 0;
        private static final int NO_INSTRUCTION = 1;
        private static final int BEYOND = 2;
        private static final int BREAK = 3;
        private static final int CALL_WORD = 0x73;
        private static final int BREAK_WORD = 0x100073;
        private static final int RETURN_REGISTER = 1;

        final Memory memory = new Memory();
        final Registers registers = new Registers();
        final Report report = new Report();
        final Host host = new Host();
        int pc;
        private int word;
        // Where the PC goes when the INSTRUCTION is done.
        private int next;
        int ended;
        int result;
        int done;

        void reset() {
            memory.reset();
            registers.reset();
            report.reset();
            host.reset();
            pc = 0;
            ended = GOES_ON;
            result = 0;
            done = 0;
        }

        /** Reads the next INSTRUCTION; false and a TRAP if there is none where the PC is. */
        boolean fetch() {
            if (pc < 0 || pc > MEMORY_END - 4 || (pc & 3) != 0) {
                trap(NO_INSTRUCTION_THERE);
                return false;
            }
            if (!memory.isOpenWord(pc)) {
                report.note(Report.SHUT_INSTRUCTION, pc, memory.firstShut(pc, 4));
            }
            word = memory.word(pc);
            next = pc + 4;
            return true;
        }

        private void trap(int which) {
            ended = TRAPPED;
            result = which;
        }

        void perform() {
            int w = word;
            switch (w & 0x7F) {
                case 0x37:
                    registers.put(Word.d(w), Word.upper(w), 0);
                    break;
                case 0x17:
                    registers.put(Word.d(w), Word.upper(w) + pc, 0);
                    break;
                case 0x6F:
                    jump(w);
                    break;
                case 0x67:
                    jumpToRegister(w);
                    break;
                case 0x63:
                    branch(w);
                    break;
                case 0x03:
                    load(w);
                    break;
                case 0x23:
                    store(w);
                    break;
                case 0x13:
                    reckonImmediate(w);
                    break;
                case 0x33:
                    reckon(Reckoner.kind(Word.f(w), Word.g(w)), w, registers.value[Word.b(w)],
                            registers.ungiven[Word.b(w)]);
                    break;
                case 0x0F:
                    break;
                case 0x73:
                    callOrBreak(w);
                    break;
                default:
                    trap(NO_INSTRUCTION);
                    break;
            }
            if (ended != TRAPPED) {
                pc = next;
                done++;
            }
        }

        private void jump(int w) {
            int d = Word.d(w);
            if (d == RETURN_REGISTER) {
                report.pushReturn(pc + 4);
            }
            registers.put(d, pc + 4, 0);
            next = pc + Word.jumpOffset(w);
        }

        private void jumpToRegister(int w) {
            if (Word.f(w) != 0) {
                trap(NO_INSTRUCTION);
                return;
            }
            int a = Word.a(w);
            int d = Word.d(w);
            int target = (registers.value[a] + Word.immediate(w)) & -2;
            if (registers.ungiven[a] != 0) {
                report.note(Report.UNGIVEN_ADDRESS, pc, target);
            }
            // Only now: what this INSTRUCTION tells, it tells from where it stands.
            if (d == RETURN_REGISTER) {
                report.pushReturn(pc + 4);
            } else if (a == RETURN_REGISTER) {
                report.popReturn();
            }
            registers.put(d, pc + 4, 0);
            next = target;
        }

        private void branch(int w) {
            int f = Word.f(w);
            if (f == 2 || f == 3) {
                trap(NO_INSTRUCTION);
                return;
            }
            int a = Word.a(w);
            int b = Word.b(w);
            if ((registers.ungiven[a] | registers.ungiven[b]) != 0) {
                report.note(Report.UNGIVEN_BRANCH, pc, 0);
            }
            if (isTaken(f, registers.value[a], registers.value[b])) {
                next = pc + Word.branchOffset(w);
            }
        }

        private static boolean isTaken(int f, int a, int b) {
            switch (f) {
                case 0: return a == b;
                case 1: return a != b;
                case 4: return Reckoner.isBelow(a, b);
                case 5: return !Reckoner.isBelow(a, b);
                case 6: return Reckoner.isBelowUnsigned(a, b);
                default: return !Reckoner.isBelowUnsigned(a, b);
            }
        }

        private void load(int w) {
            int f = Word.f(w);
            if (f == 3 || f > 5) {
                trap(NO_INSTRUCTION);
                return;
            }
            int n = 1 << (f & 3);
            int at = registers.value[Word.a(w)] + Word.immediate(w);
            if (!isReached(Word.a(w), at, n)) {
                return;
            }
            // Up and down again copies the sign, of the number and of its shadow.
            int shift = f < 4 ? 32 - 8 * n : 0;
            registers.put(Word.d(w), memory.read(at, n) << shift >> shift,
                    memory.readUngiven(at, n) << shift >> shift);
        }

        private void store(int w) {
            int f = Word.f(w);
            if (f > 2) {
                trap(NO_INSTRUCTION);
                return;
            }
            int n = 1 << f;
            int b = Word.b(w);
            int at = registers.value[Word.a(w)] + Word.storeOffset(w);
            if (isReached(Word.a(w), at, n)) {
                memory.write(at, n, registers.value[b], registers.ungiven[b]);
            }
        }

        /** Tells what is wrong with n octets at an address that register a gave; a TRAP if beyond. */
        private boolean isReached(int a, int at, int n) {
            if (registers.ungiven[a] != 0) {
                report.note(Report.UNGIVEN_ADDRESS, pc, at);
            }
            if (at < 0 || at > MEMORY_END - n) {
                trap(BEYOND);
                return false;
            }
            int shut = memory.firstShut(at, n);
            if (shut >= 0) {
                report.note(Report.SHUT_DATA, pc, shut);
            }
            return true;
        }

        private void reckonImmediate(int w) {
            int f = Word.f(w);
            if (f == Reckoner.LEFT || f == Reckoner.RIGHT) {
                reckon(Reckoner.kindOfShift(f, Word.g(w)), w, Word.b(w), 0);
            } else {
                reckon(f, w, Word.immediate(w), 0);
            }
        }

        private void reckon(int kind, int w, int b, int ungivenB) {
            if (kind == Reckoner.NONE) {
                trap(NO_INSTRUCTION);
                return;
            }
            int a = registers.value[Word.a(w)];
            int ungivenA = registers.ungiven[Word.a(w)];
            registers.put(Word.d(w), Reckoner.value(kind, a, b),
                    Reckoner.ungiven(kind, a, ungivenA, b, ungivenB));
        }

        private void callOrBreak(int w) {
            if (w != CALL_WORD) {
                trap(w == BREAK_WORD ? BREAK : NO_INSTRUCTION);
                return;
            }
            int ungivenRegister = Host.ungivenRegister(registers);
            if (ungivenRegister != 0) {
                report.note(Report.UNGIVEN_CALL, pc, ungivenRegister);
            }
            if (registers.value[Host.WHICH] == Host.EXIT) {
                host.tellLost(pc, registers, memory, report);
                ended = EXITED;
                result = registers.value[Host.FIRST];
                next = pc;
            } else {
                host.serve(pc, registers, memory, report);
            }
        }
    }
}
