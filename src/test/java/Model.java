import java.math.BigInteger;
import java.util.ArrayList;
import java.util.Comparator;
import java.util.HashSet;
import java.util.List;

/**
 * A second telling of the document, bit by bit and as plain as can be, to compare the program with. It shares
 * no code and no form with it: shadows are rows of booleans, the heap is a list of blocks.
 */
final class Model {
    record Block(int at, int n) {
        int takes() {
            return Math.max(16, (n + 15) / 16 * 16);
        }
    }

    final int[] image = new int[16384];
    final List<Integer> in = new ArrayList<>();
    int nextIn;
    final List<Integer> out = new ArrayList<>();
    final int[] octets = new int[65536];
    final boolean[] open = new boolean[65536];
    final boolean[][] given = new boolean[65536][8];
    final int[] x = new int[32];
    final boolean[][] xGiven = new boolean[32][32];
    final List<Block> live = new ArrayList<>();
    final List<Block> kept = new ArrayList<>();
    final List<int[]> told = new ArrayList<>();
    final HashSet<String> pairs = new HashSet<>();
    final List<Integer> returns = new ArrayList<>();
    int all;
    int pc;
    int ended;
    int result;
    int done;

    /** A TRAP on its way out of an INSTRUCTION. */
    static final class Trap extends Exception {
        private static final long serialVersionUID = 1L;
        final int which;

        Trap(int which) {
            this.which = which;
        }
    }

    Model() {
        begin();
    }

    void begin() {
        for (int at = 0; at < 65536; at++) {
            octets[at] = at < 16384 ? image[at] : 0;
            open[at] = at < 16384 || at >= 57344;
            java.util.Arrays.fill(given[at], at < 57344);
        }
        for (int k = 0; k < 32; k++) {
            x[k] = k == 2 ? 65536 : 0;
            java.util.Arrays.fill(xGiven[k], k == 0 || k == 2);
        }
        nextIn = 0;
        out.clear();
        live.clear();
        kept.clear();
        told.clear();
        pairs.clear();
        returns.clear();
        all = 0;
        pc = 0;
        ended = 0;
        result = 0;
        done = 0;
    }

    int run(int n) {
        for (int i = 0; i < n && ended == 0; i++) {
            try {
                int next = step();
                done++;
                pc = next;
            } catch (Trap trap) {
                ended = 2;
                result = trap.which;
            }
        }
        return ended;
    }

    private void note(int which, int number) {
        all++;
        if (told.size() < 60 && pairs.add(which + " " + pc)) {
            tell(which, number);
        }
    }

    private void tell(int which, int number) {
        int[] row = {which, pc, number, 0, 0, 0, 0};
        for (int i = 0; i < 4 && i < returns.size(); i++) {
            row[3 + i] = returns.get(returns.size() - 1 - i);
        }
        told.add(row);
    }

    private static int bits(int w, int high, int low) {
        return (int) ((w & 0xFFFFFFFFL) >> low & (1L << high - low + 1) - 1);
    }

    private static int signed(int number, int width) {
        return number >= 1 << width - 1 ? number - (1 << width) : number;
    }

    private boolean wholly(int k) {
        for (boolean bit : xGiven[k]) {
            if (!bit) {
                return false;
            }
        }
        return true;
    }

    private static boolean[] allGiven() {
        boolean[] bits = new boolean[32];
        java.util.Arrays.fill(bits, true);
        return bits;
    }

    private void put(int d, int number, boolean[] bits) {
        if (d != 0) {
            x[d] = number;
            xGiven[d] = bits;
        }
    }

    private int step() throws Trap {
        if (Integer.remainderUnsigned(pc, 4) != 0 || Integer.compareUnsigned(pc, 65536) >= 0) {
            throw new Trap(0);
        }
        for (int i = 3, first = -1; i >= 0; i--) {
            first = open[pc + i] ? first : pc + i;
            if (i == 0 && first >= 0) {
                note(1, first);
            }
        }
        int w = octets[pc] + (octets[pc + 1] << 8) + (octets[pc + 2] << 16) + (octets[pc + 3] << 24);
        int d = bits(w, 11, 7);
        int f = bits(w, 14, 12);
        int a = bits(w, 19, 15);
        int number = signed(bits(w, 31, 20), 12);
        switch (bits(w, 6, 0)) {
            case 0x37: put(d, bits(w, 31, 12) << 12, allGiven()); return pc + 4;
            case 0x17: put(d, (bits(w, 31, 12) << 12) + pc, allGiven()); return pc + 4;
            case 0x6F: return jump(w, d);
            case 0x67: return jumpTo(d, f, a, number);
            case 0x63: return branch(w, f, a);
            case 0x03: load(d, f, a, number); return pc + 4;
            case 0x23: store(w, f, a); return pc + 4;
            case 0x13: immediate(w, number); return pc + 4;
            case 0x33: reckon(w, f, bits(w, 31, 25), x[bits(w, 24, 20)], xGiven[bits(w, 24, 20)]); return pc + 4;
            case 0x0F: return pc + 4;
            case 0x73: return system(w);
            default: throw new Trap(1);
        }
    }

    private void push(int address) {
        returns.add(address);
        if (returns.size() > 32) {
            returns.remove(0);
        }
    }

    private int jump(int w, int d) {
        int offset = bits(w, 31, 31) << 20 | bits(w, 19, 12) << 12 | bits(w, 20, 20) << 11 | bits(w, 30, 21) << 1;
        put(d, pc + 4, allGiven());
        if (d == 1) {
            push(pc + 4);
        }
        return pc + signed(offset, 21);
    }

    private int jumpTo(int d, int f, int a, int number) throws Trap {
        if (f != 0) {
            throw new Trap(1);
        }
        int target = x[a] + number;
        target -= target & 1;
        if (!wholly(a)) {
            note(3, target);
        }
        if (d == 1) {
            push(pc + 4);
        }
        if (a == 1 && d != 1 && !returns.isEmpty()) {
            returns.remove(returns.size() - 1);
        }
        put(d, pc + 4, allGiven());
        return target;
    }

    private int branch(int w, int f, int a) throws Trap {
        if (f == 2 || f == 3) {
            throw new Trap(1);
        }
        int b = bits(w, 24, 20);
        if (!wholly(a) || !wholly(b)) {
            note(2, 0);
        }
        int order = f < 6 ? Integer.compare(x[a], x[b]) : Integer.compareUnsigned(x[a], x[b]);
        boolean below = f < 2 ? order == 0 : order < 0;
        int offset = bits(w, 31, 31) << 12 | bits(w, 7, 7) << 11 | bits(w, 30, 25) << 5 | bits(w, 11, 8) << 1;
        return below == (f % 2 == 0) ? pc + signed(offset, 13) : pc + 4;
    }

    private void reach(int a, long address, int n) throws Trap {
        if (!wholly(a)) {
            note(3, (int) address);
        }
        if (address + n > 65536) {
            throw new Trap(2);
        }
        for (int i = 0; i < n; i++) {
            if (!open[(int) address + i]) {
                note(4, (int) address + i);
                return;
            }
        }
    }

    private void load(int d, int f, int a, int number) throws Trap {
        if (f == 3 || f == 6 || f == 7) {
            throw new Trap(1);
        }
        int n = f == 2 ? 4 : f == 1 || f == 5 ? 2 : 1;
        long address = (x[a] + number) & 0xFFFFFFFFL;
        reach(a, address, n);
        BigInteger value = BigInteger.ZERO;
        boolean[] bits = allGiven();
        for (int i = 0; i < 8 * n; i++) {
            int at = (int) address + i / 8;
            value = (octets[at] >> i % 8 & 1) == 1 ? value.setBit(i) : value;
            bits[i] = !open[at] || given[at][i % 8];
        }
        for (int i = 8 * n; i < 32 && f < 4; i++) {
            value = value.testBit(8 * n - 1) ? value.setBit(i) : value;
            bits[i] = bits[8 * n - 1];
        }
        put(d, value.intValue(), bits);
    }

    private void store(int w, int f, int a) throws Trap {
        if (f > 2) {
            throw new Trap(1);
        }
        int b = bits(w, 24, 20);
        int n = f == 0 ? 1 : f == 1 ? 2 : 4;
        long address = (x[a] + signed(bits(w, 31, 25) << 5 | bits(w, 11, 7), 12)) & 0xFFFFFFFFL;
        reach(a, address, n);
        for (int i = 0; i < n; i++) {
            octets[(int) address + i] = bits(x[b], 8 * i + 7, 8 * i);
            for (int j = 0; j < 8; j++) {
                given[(int) address + i][j] = xGiven[b][8 * i + j];
            }
        }
    }

    private void immediate(int w, int number) throws Trap {
        int f = bits(w, 14, 12);
        int g = bits(w, 31, 25);
        if (f == 1 || f == 5) {
            if (g != 0 && !(g == 0x20 && f == 5)) {
                throw new Trap(1);
            }
            reckon(w, f, g, bits(w, 24, 20), allGiven());
        } else {
            reckon(w, f, 0, number, allGiven());
        }
    }

    private void reckon(int w, int f, int g, int b, boolean[] givenB) throws Trap {
        if (g != 0 && g != 1 && !(g == 0x20 && (f == 0 || f == 5))) {
            throw new Trap(1);
        }
        int a = x[bits(w, 19, 15)];
        boolean[] givenA = xGiven[bits(w, 19, 15)];
        boolean any = false;
        boolean anyShift = false;
        for (int i = 0; i < 32; i++) {
            any |= !givenA[i] || !givenB[i];
            anyShift |= i < 5 && !givenB[i];
        }
        boolean[] bits = new boolean[32];
        boolean carried = false;
        for (int i = 0; i < 32; i++) {
            carried |= !givenA[i] || !givenB[i];
            int bitA = a >> i & 1;
            int bitB = b >> i & 1;
            int by = b & 31;
            boolean both = givenA[i] && givenB[i];
            switch (g == 1 ? 8 : f) {
                case 0: bits[i] = !carried; break;
                case 1: bits[i] = !anyShift && (i < by || givenA[i - by]); break;
                case 2:
                case 3: bits[i] = i > 0 || !any; break;
                case 4: bits[i] = both; break;
                case 5: bits[i] = !anyShift && (i + by < 32 ? givenA[i + by] : g == 0 || givenA[31]); break;
                case 6: bits[i] = both || givenA[i] && bitA == 1 || givenB[i] && bitB == 1; break;
                case 7: bits[i] = both || givenA[i] && bitA == 0 || givenB[i] && bitB == 0; break;
                default: bits[i] = !any; break;
            }
        }
        put(bits(w, 11, 7), g == 1 ? product(f, a, b) : plain(f, g, a, b), bits);
    }

    private static int plain(int f, int g, int a, int b) {
        switch (f) {
            case 0: return g == 0 ? a + b : a - b;
            case 1: return a << b;
            case 2: return a < b ? 1 : 0;
            case 3: return Integer.compareUnsigned(a, b) < 0 ? 1 : 0;
            case 4: return a ^ b;
            case 5: return g == 0 ? a >>> b : a >> b;
            case 6: return a | b;
            default: return a & b;
        }
    }

    private static int product(int f, int a, int b) {
        BigInteger bigA = f == 3 ? BigInteger.valueOf(a & 0xFFFFFFFFL) : BigInteger.valueOf(a);
        BigInteger bigB = f == 2 || f == 3 ? BigInteger.valueOf(b & 0xFFFFFFFFL) : BigInteger.valueOf(b);
        switch (f) {
            case 0: return a * b;
            case 1:
            case 2:
            case 3: return bigA.multiply(bigB).shiftRight(32).intValue();
            case 4: return b == 0 ? -1 : bigA.divide(bigB).intValue();
            case 5: return b == 0 ? -1 : Integer.divideUnsigned(a, b);
            case 6: return b == 0 ? a : bigA.remainder(bigB).intValue();
            default: return b == 0 ? a : Integer.remainderUnsigned(a, b);
        }
    }

    private int system(int w) throws Trap {
        if (w == 0x100073) {
            throw new Trap(3);
        }
        if (w != 0x73) {
            throw new Trap(1);
        }
        int call = x[17];
        if (!wholly(17)) {
            note(5, 17);
        } else if (call == 5 && !lowest(10) || call >= 1 && call <= 4 && !wholly(10)) {
            note(5, 10);
        } else if (call == 4 && !wholly(11)) {
            note(5, 11);
        }
        switch (call) {
            case 1:
                ended = 1;
                result = x[10];
                tellLost();
                return pc;
            case 2: put(10, make(x[10]), allGiven()); break;
            case 3:
                if (x[10] != 0 && mayGive(x[10])) {
                    giveBack(x[10]);
                }
                break;
            case 4: put(10, x[10] == 0 ? make(x[11]) : mayGive(x[10]) ? remake(x[10], x[11]) : 0, allGiven()); break;
            case 5:
                if (out.size() < 4096) {
                    out.add(x[10] & 255);
                }
                break;
            case 6: put(10, nextIn < in.size() ? in.get(nextIn++) : -1, allGiven()); break;
            default: put(10, -1, allGiven()); break;
        }
        return pc + 4;
    }

    private boolean lowest(int k) {
        boolean answer = true;
        for (int i = 0; i < 8; i++) {
            answer &= xGiven[k][i];
        }
        return answer;
    }

    private static Block at(List<Block> blocks, int address) {
        for (Block block : blocks) {
            if (block.at() == address) {
                return block;
            }
        }
        return null;
    }

    private boolean mayGive(int address) {
        if (at(live, address) != null) {
            return true;
        }
        note(at(kept, address) != null ? 6 : 7, address);
        return false;
    }

    private int make(int n) {
        if (Integer.compareUnsigned(n, 16384) > 0) {
            return 0;
        }
        List<Block> others = new ArrayList<>(live);
        others.addAll(kept);
        for (int at = 32768; at < 57344; at += 16) {
            Block made = new Block(at, n);
            boolean fits = at - 16 >= 32768 && at + made.takes() + 16 <= 57344;
            for (Block other : others) {
                fits &= other.at() + other.takes() <= at - 16 || other.at() >= at + made.takes() + 16;
            }
            if (fits) {
                live.add(made);
                for (int i = at; i < at + n; i++) {
                    open[i] = true;
                    java.util.Arrays.fill(given[i], false);
                }
                return at;
            }
        }
        return 0;
    }

    private void giveBack(int address) {
        Block block = at(live, address);
        live.remove(block);
        kept.add(block);
        for (int i = address; i < address + block.n(); i++) {
            open[i] = false;
            java.util.Arrays.fill(given[i], true);
        }
        while (kept.stream().mapToInt(Block::n).sum() > 2048) {
            kept.remove(0);
        }
    }

    private int remake(int old, int n) {
        int made = make(n);
        if (made != 0) {
            for (int i = 0; i < n && i < at(live, old).n(); i++) {
                octets[made + i] = octets[old + i];
                open[made + i] = open[old + i];
                given[made + i] = given[old + i].clone();
            }
            giveBack(old);
        }
        return made;
    }

    private Block holding(int address) {
        for (Block block : live) {
            if (address == block.at() || address > block.at() && address < block.at() + block.n()) {
                return block;
            }
        }
        return null;
    }

    /** Goes over all again until nothing more is FOUND. */
    private void tellLost() {
        HashSet<Block> found = new HashSet<>();
        for (int k = 0; k < 32; k++) {
            if (wholly(k) && holding(x[k]) != null) {
                found.add(holding(x[k]));
            }
        }
        for (int before = -1; before != found.size();) {
            before = found.size();
            for (int at = 0; at < 65536; at += 4) {
                boolean heap = at >= 32768 && at < 57344;
                if (isWhole(at) && (!heap || found.contains(holding(at)))) {
                    Block block = holding(octets[at] | octets[at + 1] << 8 | octets[at + 2] << 16 | octets[at + 3] << 24);
                    if (block != null) {
                        found.add(block);
                    }
                }
            }
        }
        live.stream().filter(block -> !found.contains(block)).sorted(Comparator.comparingInt(Block::at)).forEach(block -> {
            all++;
            if (told.size() < 60) {
                tell(8, block.at());
            }
        });
    }

    private boolean isWhole(int at) {
        for (int i = at; i < at + 4; i++) {
            for (int j = 0; j < 8; j++) {
                if (!open[i] || !given[i][j]) {
                    return false;
                }
            }
        }
        return true;
    }

    int unknown(int k) {
        int answer = 0;
        for (int i = 0; i < 32; i++) {
            answer |= xGiven[k][i] ? 0 : 1 << i;
        }
        return answer;
    }

    int memory(int at) {
        int answer = octets[at] + (open[at] ? 65536 : 0);
        for (int j = 0; j < 8; j++) {
            answer += given[at][j] ? 0 : 256 << j;
        }
        return answer;
    }

    int count(int what) {
        int[] all11 = {ended, result, pc, done, told.size(), all, out.size(), live.size(), kept.size(),
            live.stream().mapToInt(Block::n).sum(), returns.size()};
        return all11[what];
    }
}
