/** Term 1, sentence by sentence, with the edges that each of them names. */
public final class MachineEdgesTest {
    private static final int MIN = Integer.MIN_VALUE;
    private static final int MAX = Integer.MAX_VALUE;

    public static void main(String[] args) {
        registers();
        parts();
        zero();
        lowestFirst();
        readWhenDone();
        wrap();
        uppers();
        jumps();
        jumpsToRegisters();
        branchOffsets();
        branchConditions();
        reading();
        storing();
        immediates();
        immediateShifts();
        plain();
        shifts();
        products();
        quotients();
        rests();
        nothing();
        calls();
        Check.finish();
    }

    private static void registers() {
        Check.sentence("32 registers of 32 bits");
        Asm asm = new Asm();
        for (int k = 1; k < 32; k++) {
            asm.li(k, 0x80000001 ^ k << 8);
        }
        Renewed host = asm.after(62);
        for (int k = 1; k < 32; k++) {
            Check.due("x" + k, host.register(k), 0x80000001 ^ k << 8);
            Check.due("x" + k + " is GIVEN", host.unknown(k), 0);
        }
    }

    private static void parts() {
        Check.sentence("bits 6 to 0 OP, 11 to 7 D, 14 to 12 F, 19 to 15 A, 24 to 20 B, 31 to 25 G");
        // A difference, so that A and B cannot be exchanged; each register holds another number.
        for (int k = 0; k < 32; k++) {
            difference(k, 7, 9);
            difference(5, k, 9);
            difference(5, 7, k);
        }
    }

    private static void difference(int d, int a, int b) {
        Asm asm = new Asm();
        for (int k = 1; k < 32; k++) {
            asm.li(k, 100 * k * k);
        }
        Renewed host = asm.word(0x40000033 | d << 7 | a << 15 | b << 20).after(63);
        for (int k = 1; k < 32; k++) {
            Check.due("x" + d + " = x" + a + " - x" + b + ": x" + k, host.register(k), k == d ? 100 * (a * a - b * b) : 100 * k * k);
        }
    }

    private static void zero() {
        Check.sentence("(x0 is 0)");
        Asm asm = new Asm().words(Asm.lui(0, 0xFFFFF000), Asm.auipc(0, 0x1000), Asm.jal(0, 4), Asm.jalr(0, 0, 16));
        for (int f : new int[] {0, 1, 2, 4, 5}) {
            asm.words(Asm.load(f, 0, 2, -4), Asm.load(f, 0, 0, 0));
        }
        for (int f = 0; f < 8; f++) {
            asm.words(Asm.i(0x13, f, 0, 2, 3), Asm.i(0x13, f, 0, 31, 3));
            asm.words(Asm.r(0, f, 0, 2, 31), Asm.r(1, f, 0, 2, 2), Asm.r(1, f, 0, 31, 2));
        }
        asm.words(Asm.r(0x20, 0, 0, 0, 2), Asm.r(0x20, 5, 0, 2, 0));
        Renewed host = asm.words(Asm.addi(0, 0, -1), Asm.addi(5, 0, 0), Asm.BREAK).host();
        for (int at = 0; at < asm.here() - 4; at += 4) {
            Check.due("goes on at " + at, host.run(1), 0);
            Check.due("x0 behind " + at, host.register(0), 0);
            Check.due("x0 is GIVEN behind " + at, host.unknown(0), 0);
        }
        Check.due("read as 0", host.register(5), 0);
        Check.due("read as GIVEN", host.unknown(5), 0);
    }

    private static void lowestFirst() {
        Check.sentence("MEMORY of 65536 octets, the lowest octet of a number first");
        Renewed host = new Asm().li(5, 0x84838281).words(Asm.store(2, 5, 2, -4), Asm.load(5, 6, 2, -2), Asm.load(4, 7, 2, -4)).after(5);
        for (int i = 0; i < 4; i++) {
            Check.due("octet " + (65532 + i), host.memory(65532 + i), 65536 + 0x81 + i);
        }
        Check.due("the upper two octets", host.register(6), 0x8483);
        Check.due("the lowest octet", host.register(7), 0x81);
    }

    private static void readWhenDone() {
        Check.sentence("read when they are done (as they are in MEMORY then)");
        Renewed next = new Asm().li(5, Asm.addi(6, 0, 77)).words(Asm.store(2, 5, 0, 12), Asm.addi(6, 0, 1), Asm.BREAK).done();
        Check.due("the next one was changed", next.register(6), 77);
        Renewed itself = new Asm().li(5, Asm.BREAK).words(Asm.store(2, 5, 0, 8), Asm.jal(0, -4)).host();
        Check.due("it is done as it was read", itself.run(4), 0);
        Check.due("then as it is", itself.run(1), 2);
        Check.due("TRAP 3", itself.count(1), 3);
        Check.due("PC", itself.count(2), 8);
        Renewed ungiven = new Asm().mixed(5, 0x0F, -1).words(Asm.store(2, 5, 2, -8), Asm.addi(6, 2, -8), Asm.jalr(0, 6, 0)).done();
        Check.due("octets that are OPEN and not GIVEN are done, too", ungiven.count(2), 65532);
        Check.due("without ERRORS", ungiven.count(5), 0);
    }

    /** One INSTRUCTION 0x33 with its A and B. */
    private static void reckoned(int g, int f, int a, int b, int want) {
        Renewed host = new Asm().li(5, a).li(6, b).word(Asm.r(g, f, 7, 5, 6)).after(5);
        Check.due("G " + g + " F " + f + " of " + a + ", " + b, host.register(7), want);
        Check.due("all GIVEN", host.unknown(7), 0);
    }

    private static void wrap() {
        Check.sentence("Numbers are two's complement and wrap");
        reckoned(0, 0, MAX, 1, MIN);
        reckoned(0, 0, MIN, -1, MAX);
        reckoned(0, 0, -1, 1, 0);
        reckoned(0x20, 0, MIN, 1, MAX);
        reckoned(0x20, 0, 0, MIN, MIN);
        reckoned(0x20, 0, 0, 1, -1);
        reckoned(1, 0, 65536, 65536, 0);
        reckoned(1, 0, MIN, -1, MIN);
        reckoned(1, 0, MAX, 2, -2);
        Renewed host = new Asm().li(5, MAX).word(Asm.addi(6, 5, 1)).li(5, MIN).word(Asm.addi(7, 5, -1)).after(6);
        Check.due("0x13 up", host.register(6), MIN);
        Check.due("0x13 down", host.register(7), MAX);
    }

    private static void uppers() {
        Check.sentence("0x37: D is bits 31 to 12, zeros below; 0x17: that and PC");
        Renewed host = new Asm().words(Asm.addi(5, 0, -1), 0xFFFFF2B7, Asm.addi(6, 0, -1), 0x00000337, 0x800003B7, 0x00001437).after(6);
        Check.due("all bits", host.register(5), 0xFFFFF000);
        Check.due("no bit", host.register(6), 0);
        Check.due("bit 31", host.register(7), MIN);
        Check.due("bit 12", host.register(8), 4096);
        Renewed pc = new Asm().words(0x00000297, 0xFFFFF317, 0x7FFFF397).after(3);
        Check.due("0x17 of 0 at 0", pc.register(5), 0);
        Check.due("0x17 goes back", pc.register(6), -4096 + 4);
        Check.due("0x17 of the most", pc.register(7), 0x7FFFF008);
        Renewed wraps = new Asm().li(5, 4096).word(Asm.jalr(0, 5, 0)).at(4096).words(0xFFFFF317, 0x00000397).after(5);
        Check.due("0x17 wraps", wraps.register(6), 0);
        Check.due("0x17 of 0 is PC", wraps.register(7), 4100);
    }

    private static void jumps() {
        Check.sentence("0x6F: D is PC + 4, PC goes on by the offset of bits 31, 19 to 12, 20, 30 to 21, a zero (31 is the sign)");
        // Each bit of the word, and the offset that it stands for.
        int[] offsets = {4096, 8192, 16384, 32768, 65536, 131072, 262144, 524288, 2048, 2, 4, 8, 16, 32, 64, 128, 256, 512, 1024, -1048576};
        for (int i = 0; i < 20; i++) {
            Renewed host = new Asm().words(0x0F, 0x2EF | 1 << 12 + i).after(2);
            Check.due("bit " + (12 + i), host.count(2), 4 + offsets[i]);
            Check.due("D", host.register(5), 8);
        }
        Check.due("all bits: back by 2", new Asm().words(0x0F, 0xFFFFF2EF).after(2).count(2), 2);
        Check.due("all but the sign", new Asm().words(0x0F, 0x7FFFF2EF).after(2).count(2), 4 + 0xFFFFE);
        Renewed still = new Asm().words(0x0F, 0x2EF).after(10);
        Check.due("by 0: it stays there", still.count(2), 4);
        Check.due("and goes on", still.count(3), 10);
    }

    private static void jumpsToRegisters() {
        Check.sentence("0x67, F 0: D is PC + 4, PC is A + I (I: bits 31 to 20 with sign), its bit 0 off");
        int[][] cases = {{4096, 2047, 6142}, {4096, -2048, 2048}, {4096, -1, 4094}, {4096, 1, 4096}, {4095, 1, 4096}, {4095, 0, 4094},
            {4095, 2, 4096}, {4096, 4, 4100}, {-4, 8, 4}, {MAX, 1, MIN}, {0, -1, -2}, {MIN, -1, MAX - 1}};
        for (int[] c : cases) {
            Renewed host = new Asm().li(5, c[0]).word(Asm.jalr(6, 5, c[1])).after(3);
            Check.due(c[0] + " and " + c[1], host.count(2), c[2]);
            Check.due("D", host.register(6), 12);
            Check.due("A stays", host.register(5), c[0]);
        }
        Renewed same = new Asm().li(5, 4096).word(Asm.jalr(5, 5, 4)).after(3);
        Check.due("D is A: PC by A as it was", same.count(2), 4100);
        Check.due("D is A", same.register(5), 12);
    }

    private static void branchOffsets() {
        Check.sentence("PC goes on by the offset of bits 31, 7, 30 to 25, 11 to 8, a zero");
        int[][] bits = {{7, 2048}, {8, 2}, {9, 4}, {10, 8}, {11, 16}, {25, 32}, {26, 64}, {27, 128}, {28, 256}, {29, 512}, {30, 1024}, {31, -4096}};
        for (int[] bit : bits) {
            Check.due("bit " + bit[0], new Asm().words(0x0F, 0x63 | 1 << bit[0]).after(2).count(2), 4 + bit[1]);
        }
        Check.due("all bits: back by 2", new Asm().words(0x0F, 0xFE000FE3).after(2).count(2), 2);
        Check.due("all but the sign", new Asm().words(0x0F, 0x7E000FE3).after(2).count(2), 4 + 4094);
        Renewed still = new Asm().words(0x0F, 0x63).after(10);
        Check.due("by 0: it stays there", still.count(2), 4);
        Check.due("not taken, goes on by 4", new Asm().words(0x0F, 0xFE001FE3).after(2).count(2), 8);
        Check.due("no D", new Asm().words(0x0F, 0xFE000FE3).after(2).unknown(31), -1);
    }

    private static void branchConditions() {
        Check.sentence("if F 0 =, 1 not =, 4 <, 5 >= with sign, 6 <, 7 >= without sign, of A and B");
        int[] f = {0, 1, 4, 5, 6, 7};
        int[][] cases = {{0, 0}, {-1, -1}, {MIN, MIN}, {0, 1}, {1, 0}, {-1, 0}, {0, -1}, {MIN, MAX}, {MAX, MIN}, {5, 5 ^ MIN}, {-2, -1}};
        String[] taken = {"100101", "100101", "100101", "011010", "010101", "011001", "010110", "011001", "010110", "010110", "011010"};
        for (int c = 0; c < cases.length; c++) {
            for (int k = 0; k < f.length; k++) {
                Renewed host = new Asm().li(5, cases[c][0]).li(6, cases[c][1]).word(Asm.branch(f[k], 5, 6, 100)).after(5);
                Check.due("F " + f[k] + " of " + cases[c][0] + ", " + cases[c][1], host.count(2), taken[c].charAt(k) == '1' ? 116 : 20);
            }
        }
    }

    private static void reading() {
        Check.sentence("0x03: D is what lies at A + I: F 0, 1 one, two octets with sign, 2 four, 4, 5 one, two without sign");
        int[] f = {0, 1, 2, 4, 5};
        int[] numbers = {0x7FFF7F7F, 0x80008080, 0x00FF7FFF, 0xFF800080, 0xFFFF8000};
        int[][] want = {{127, 0x7F7F, 0x7FFF7F7F, 127, 0x7F7F}, {-128, 0xFFFF8080, 0x80008080, 128, 0x8080},
            {-1, 0x7FFF, 0x00FF7FFF, 255, 0x7FFF}, {-128, 0x80, 0xFF800080, 128, 0x80}, {0, 0xFFFF8000, 0xFFFF8000, 0, 0x8000}};
        for (int c = 0; c < numbers.length; c++) {
            for (int k = 0; k < f.length; k++) {
                Renewed host = new Asm().li(5, numbers[c]).li(6, 4096).words(Asm.store(2, 5, 6, 0), Asm.load(f[k], 7, 6, 0)).after(6);
                Check.due("F " + f[k] + " of " + numbers[c], host.register(7), want[c][k]);
            }
        }
        for (int offset : new int[] {2047, -2048, -1, 1, 2, 3}) {
            Renewed host = new Asm().li(5, 0x12345678).li(6, 4096).words(Asm.store(2, 5, 6, offset), Asm.load(2, 7, 6, offset)).after(6);
            Check.due("I " + offset, host.register(7), 0x12345678);
            Check.due("no ERROR", host.count(5), 0);
        }
        Renewed same = new Asm().li(5, 4096).word(Asm.store(2, 5, 5, 0)).word(Asm.addi(5, 0, 4)).li(5, 4096).word(Asm.load(2, 5, 5, 0)).after(7);
        Check.due("D is A", same.register(5), 4096);
    }

    private static void storing() {
        Check.sentence("0x23: the lowest octets of B, F 0 one, 1 two, 2 four, come to A + (G and D together, with sign)");
        for (int f = 0; f <= 2; f++) {
            for (int offset : new int[] {0, 1, 31, 32, 2047, -1, -32, -2048}) {
                Renewed host = new Asm().li(5, 0x84838281).li(6, 8192).word(Asm.store(f, 5, 6, offset)).after(5);
                for (int i = -1; i < 5; i++) {
                    int octet = i >= 0 && i < 1 << f ? 0x81 + i : 0;
                    Check.due("F " + f + " to " + offset + ", octet " + i, host.memory(8192 + offset + i), 65536 + octet);
                }
                Check.due("B stays", host.register(5), 0x84838281);
            }
        }
        // Each bit of the word.
        int[][] bits = {{7, 1}, {8, 2}, {9, 4}, {10, 8}, {11, 16}, {25, 32}, {26, 64}, {27, 128}, {28, 256}, {29, 512}, {30, 1024}, {31, -2048}};
        for (int[] bit : bits) {
            Renewed host = new Asm().li(5, 0x81).li(6, 8192).word(0x00530023 | 1 << bit[0]).after(5);
            Check.due("bit " + bit[0], host.memory(8192 + bit[1]), 65536 + 0x81);
        }
    }

    private static void immediate(int f, int a, int number, int want) {
        Renewed host = new Asm().li(5, a).word(Asm.i(0x13, f, 7, 5, number)).after(3);
        Check.due("F " + f + " of " + a + ", " + number, host.register(7), want);
    }

    private static void immediates() {
        Check.sentence("0x13: F 0 A + I; 2, 3: 1 if A is below I (with sign, without), else 0; 4, 6, 7: exclusive or, or, and");
        immediate(0, 5, 2047, 2052);
        immediate(0, 5, -2048, -2043);
        immediate(2, 7, 7, 0);
        immediate(2, 6, 7, 1);
        immediate(2, 8, 7, 0);
        immediate(2, -1, 0, 1);
        immediate(2, 0, -1, 0);
        immediate(2, MIN, -2048, 1);
        immediate(2, MAX, 2047, 0);
        immediate(3, 7, 7, 0);
        immediate(3, 6, 7, 1);
        immediate(3, -1, 0, 0);
        immediate(3, 0, -1, 1);
        immediate(3, -1, -1, 0);
        immediate(3, -2, -1, 1);
        immediate(3, 0xFFFFF7FF, -2048, 1);
        immediate(3, 4095, -1, 1);
        immediate(3, 0, 0, 0);
        immediate(4, 0x0F0F0F0F, -1, 0xF0F0F0F0);
        immediate(4, 0x0F0F0F0F, 0x7FF, 0x0F0F08F0);
        immediate(6, 0x0F000000, -2048, 0xFFFFF800);
        immediate(6, 0x0F000000, 0x7FF, 0x0F0007FF);
        immediate(7, -1, -2048, 0xFFFFF800);
        immediate(7, -1, 0x7FF, 0x7FF);
    }

    private static void immediateShifts() {
        Check.sentence("1 left by B (a number here), G 0; 5 right by B without sign (G 0), with sign (G 0x20)");
        int[][] cases = {{0, -5, -5, -5}, {1, 0x80000001, 2, 0x40000000}, {31, 3, MIN, 0}, {31, MIN, 0, 1}, {16, 0x80018001, 0x80010000, 0x8001}};
        int[] signed = {-5, 0xC0000000, 0, -1, 0xFFFF8001};
        for (int k = 0; k < cases.length; k++) {
            immediate(1, cases[k][1], cases[k][0], cases[k][2]);
            immediate(5, cases[k][1], cases[k][0], cases[k][3]);
            immediate(5, cases[k][1], 0x400 | cases[k][0], signed[k]);
        }
        // x1 is 9 here: B is no register.
        Renewed host = new Asm().words(Asm.addi(1, 0, 9), Asm.addi(5, 0, 1), Asm.i(0x13, 1, 6, 5, 1)).after(3);
        Check.due("a number, no register", host.register(6), 2);
        Check.due("GIVEN, though x3 is not", new Asm().words(Asm.addi(5, 0, 1), Asm.i(0x13, 1, 6, 5, 3)).after(2).unknown(6), 0);
    }

    private static void plain() {
        Check.sentence("0x33: G 0: F 0 +, 1 left");
        reckoned(0, 0, 700, 11, 711);
        reckoned(0, 1, 3, 4, 48);
        Check.sentence("4 exclusive or, 5 right without sign, 6 or, 7 and; G 0x20: F 0 -, 5 right with sign");
        reckoned(0, 4, 0x0FF000FF, 0x00FFFF0F, 0x0F0FFFF0);
        reckoned(0, 6, 0x0FF000FF, 0x00FFFF0F, 0x0FFFFFFF);
        reckoned(0, 7, 0x0FF000FF, 0x00FFFF0F, 0x00F0000F);
        reckoned(0, 5, -256, 4, 0x0FFFFFF0);
        reckoned(0x20, 5, -256, 4, -16);
        reckoned(0x20, 0, 700, 711, -11);
        Check.sentence("G 1: 0 *");
        reckoned(1, 0, 700, -11, -7700);
        reckoned(1, 0, -700, -11, 7700);
    }

    private static void shifts() {
        Check.sentence("(all by the lowest 5 bits of B)");
        for (int more : new int[] {0, 32, 64, 0x7FFFFFE0, MIN, -32}) {
            reckoned(0, 1, 0x80000003, more, 0x80000003);
            reckoned(0, 1, 0x80000003, more | 1, 6);
            reckoned(0, 1, 0x80000003, more | 31, MIN);
            reckoned(0, 5, 0x80000003, more, 0x80000003);
            reckoned(0, 5, 0x80000003, more | 1, 0x40000001);
            reckoned(0, 5, 0x80000003, more | 31, 1);
            reckoned(0x20, 5, 0x80000003, more, 0x80000003);
            reckoned(0x20, 5, 0x80000003, more | 1, 0xC0000001);
            reckoned(0x20, 5, 0x80000003, more | 31, -1);
        }
        Check.sentence("2, 3 below (with, without sign)");
        int[][] cases = {{0, 0, 0, 0}, {-1, -1, 0, 0}, {-1, 0, 1, 0}, {0, -1, 0, 1}, {MIN, MAX, 1, 0}, {MAX, MIN, 0, 1}, {3, 4, 1, 1}, {4, 3, 0, 0}};
        for (int[] c : cases) {
            reckoned(0, 2, c[0], c[1], c[2]);
            reckoned(0, 3, c[0], c[1], c[3]);
        }
    }

    private static void products() {
        Check.sentence("1, 2, 3: the upper 32 bits of the product (both with sign, A with sign alone, none)");
        int[][] cases = {{-1, -1, 0, -1, -2}, {-1, 1, -1, -1, 0}, {1, -1, -1, 0, 0}, {MIN, MIN, 0x40000000, 0xC0000000, 0x40000000},
            {MIN, -1, 0, MIN, MAX}, {-1, MIN, 0, -1, MAX}, {MAX, MAX, 0x3FFFFFFF, 0x3FFFFFFF, 0x3FFFFFFF}, {65536, 65536, 1, 1, 1},
            {0, -1, 0, 0, 0}, {MAX, -1, -1, MAX - 1, MAX - 1}};
        for (int[] c : cases) {
            reckoned(1, 1, c[0], c[1], c[2]);
            reckoned(1, 2, c[0], c[1], c[3]);
            reckoned(1, 3, c[0], c[1], c[4]);
        }
    }

    private static void quotients() {
        Check.sentence("4, 5 quotient (with sign, without; cut towards 0; by 0: -1; -2 ** 31 by -1: -2 ** 31)");
        int[][] signed = {{7, 2, 3}, {-7, 2, -3}, {7, -2, -3}, {-7, -2, 3}, {-1, 2, 0}, {5, 0, -1}, {-5, 0, -1}, {0, 0, -1}, {MIN, 0, -1},
            {MIN, -1, MIN}, {MIN, 1, MIN}, {MIN, MIN, 1}, {MAX, -1, -MAX}, {MAX, MIN, 0}};
        for (int[] c : signed) {
            reckoned(1, 4, c[0], c[1], c[2]);
        }
        int[][] unsigned = {{7, 2, 3}, {-7, 2, 0x7FFFFFFC}, {7, -2, 0}, {-1, -1, 1}, {-1, 1, -1}, {5, 0, -1}, {-5, 0, -1}, {0, 0, -1},
            {MIN, -1, 0}, {-1, MIN, 1}, {MIN, 2, 0x40000000}};
        for (int[] c : unsigned) {
            reckoned(1, 5, c[0], c[1], c[2]);
        }
    }

    private static void rests() {
        Check.sentence("6, 7 what is left (by 0: A; of -2 ** 31 by -1: 0)");
        int[][] signed = {{7, 2, 1}, {-7, 2, -1}, {7, -2, 1}, {-7, -2, -1}, {5, 0, 5}, {-5, 0, -5}, {MIN, 0, MIN}, {MIN, -1, 0}, {MIN, 1, 0},
            {MIN, 3, -2}, {MAX, MIN, MAX}};
        for (int[] c : signed) {
            reckoned(1, 6, c[0], c[1], c[2]);
        }
        int[][] unsigned = {{7, 2, 1}, {-7, 2, 1}, {7, -2, 7}, {-5, 0, -5}, {5, 0, 5}, {MIN, -1, MIN}, {-1, MIN, MAX}, {-1, -1, 0}};
        for (int[] c : unsigned) {
            reckoned(1, 7, c[0], c[1], c[2]);
        }
    }

    private static void nothing() {
        Check.sentence("0x0F: nothing");
        for (int w : new int[] {0x0F, 0xFFFFFF8F, 0x0FF0000F, 0x100F, 0x0000708F}) {
            Renewed host = new Asm().word(w).host();
            Check.due("goes on", host.run(1), 0);
            Check.due("PC", host.count(2), 4);
            Check.due("done", host.count(3), 1);
            Check.due("no ERROR", host.count(5), 0);
            Check.due("no RETURN", host.count(10), 0);
            for (int k = 1; k < 32; k++) {
                Check.due("x" + k, host.register(k), k == 2 ? 65536 : 0);
                Check.due("x" + k + " as it was", host.unknown(k), k == 2 ? 0 : -1);
            }
        }
    }

    private static void calls() {
        Check.sentence("0x73: 0x73 a CALL, 0x100073 a TRAP 3");
        Renewed call = new Asm().word(0x73).host();
        Check.due("a CALL", call.run(1), 0);
        Check.due("PC", call.count(2), 4);
        Check.due("it answered", call.register(10), -1);
        Renewed trap = new Asm().word(0x100073).host();
        Check.due("a TRAP", trap.run(1), 2);
        Check.due("TRAP 3", trap.count(1), 3);
        Check.due("PC", trap.count(2), 0);
        for (int bit = 7; bit < 32; bit++) {
            if (bit != 20) {
                Check.due("0x73 with bit " + bit, new Asm().word(0x73 | 1 << bit).done().count(1), 1);
                Check.due("0x100073 with bit " + bit, new Asm().word(0x100073 | 1 << bit).done().count(1), 1);
            }
        }
    }
}
