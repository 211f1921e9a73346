/** Promise 7: unknown, with the SHADOWS of term 2. */
public final class UnknownTest {
    private static final int[] MASKS = {0, 1, 0x80, 0x80000000, 0x00FF0000, 0x40000020, -1, 0xFFFF0000};
    private static final int[] NUMBERS = {0, -1, 0x55555555, 0x0F0F3C31, 5, 31};

    public static void main(String[] args) {
        wrongInputs();
        registers();
        immediates();
        known();
        read();
        Check.finish();
    }

    private static void wrongInputs() {
        Renewed host = new Renewed();
        for (int k : new int[] {-1, 32, Integer.MIN_VALUE, Integer.MAX_VALUE}) {
            Check.outOfBounds("unknown(" + k + ")", () -> host.unknown(k));
        }
        Check.due("unknown(0)", host.unknown(0), 0);
        Check.due("unknown(1)", host.unknown(1), -1);
        Check.due("unknown(2)", host.unknown(2), 0);
        Check.due("unknown(3)", host.unknown(3), -1);
        Check.due("unknown(31)", host.unknown(31), -1);
    }

    /** Bit by bit, as the document says it; x31 is 0, so the number is as it was written. */
    private static int due(int g, int f, int a, int maskA, int b, int maskB) {
        boolean any = maskA != 0 || maskB != 0;
        if (g == 1) {
            return any ? -1 : 0;
        }
        boolean shift = f == 1 || f == 5;
        int answer = 0;
        boolean lower = false;
        for (int i = 0; i < 32; i++) {
            boolean notA = (maskA >> i & 1) == 1;
            boolean notB = (maskB >> i & 1) == 1;
            boolean zeroA = !notA && (a >> i & 1) == 0;
            boolean zeroB = !notB && (b >> i & 1) == 0;
            boolean oneA = !notA && (a >> i & 1) == 1;
            boolean oneB = !notB && (b >> i & 1) == 1;
            lower |= notA || notB;
            boolean not;
            if (shift) {
                int from = f == 1 ? i - (b & 31) : i + (b & 31);
                from = from > 31 && g == 0x20 ? 31 : from;
                not = (maskB & 31) != 0 || from >= 0 && from < 32 && (maskA >> from & 1) == 1;
            } else if (f == 0) {
                not = lower;
            } else if (f == 2 || f == 3) {
                not = i == 0 && any;
            } else if (f == 4) {
                not = notA || notB;
            } else if (f == 6) {
                not = (notA || notB) && !oneA && !oneB;
            } else {
                not = (notA || notB) && !zeroA && !zeroB;
            }
            answer |= not ? 1 << i : 0;
        }
        return answer;
    }

    private static void registers() {
        int[][] kinds = {{0, 0}, {0, 1}, {0, 2}, {0, 3}, {0, 4}, {0, 5}, {0, 6}, {0, 7}, {0x20, 0}, {0x20, 5},
            {1, 0}, {1, 1}, {1, 2}, {1, 3}, {1, 4}, {1, 5}, {1, 6}, {1, 7}};
        for (int maskA : MASKS) {
            for (int maskB : MASKS) {
                for (int a : NUMBERS) {
                    for (int b : NUMBERS) {
                        Asm asm = new Asm().mixed(5, a, maskA).mixed(6, b, maskB);
                        for (int k = 0; k < kinds.length; k++) {
                            asm.word(Asm.r(kinds[k][0], kinds[k][1], 8 + k, 5, 6));
                        }
                        Renewed host = asm.host();
                        host.run(12 + kinds.length);
                        Check.due("the mask of A", host.unknown(5), maskA);
                        Check.due("A", host.register(5), a);
                        for (int k = 0; k < kinds.length; k++) {
                            Check.due("G " + kinds[k][0] + " F " + kinds[k][1] + " of " + a + "?" + maskA + ", " + b + "?" + maskB,
                                    host.unknown(8 + k), due(kinds[k][0], kinds[k][1], a, maskA, b, maskB));
                        }
                    }
                }
            }
        }
    }

    private static void immediates() {
        for (int mask : MASKS) {
            for (int a : NUMBERS) {
                for (int number : new int[] {0, -1, 1, 31, 16, 0x7FF, -2048}) {
                    Asm asm = new Asm().mixed(5, a, mask);
                    for (int f : new int[] {0, 2, 3, 4, 6, 7}) {
                        asm.word(Asm.i(0x13, f, 8 + f, 5, number));
                    }
                    asm.words(Asm.i(0x13, 1, 9, 5, number & 31), Asm.i(0x13, 5, 13, 5, number & 31),
                            Asm.i(0x13, 5, 16, 5, 0x400 | number & 31));
                    Renewed host = asm.host();
                    host.run(15);
                    for (int f = 0; f < 8; f++) {
                        Check.due("0x13 F " + f + " of " + a + "?" + mask + ", " + number, host.unknown(8 + f),
                                due(0, f, a, mask, number, 0));
                    }
                    Check.due("right with sign", host.unknown(16), due(0x20, 5, a, mask, number, 0));
                }
            }
        }
    }

    private static void known() {
        Renewed host = new Asm().words(Asm.lui(5, 0x1000), Asm.auipc(6, 0x1000), Asm.jal(7, 4), Asm.jalr(8, 2, -1), Asm.addi(9, 0, 4))
                .host();
        host.run(4);
        for (int k = 5; k <= 8; k++) {
            Check.due("x" + k + " is GIVEN", host.unknown(k), 0);
        }
        Check.due("x9 was not reached", host.unknown(9), -1);
        Check.due("D that is x0 stays GIVEN", new Asm().word(Asm.addi(0, 9, 0)).done().unknown(0), 0);
    }

    private static void read() {
        // The STACK is not GIVEN; 0x0F0F0F0F not GIVEN lies at 65528, but for its octet 65529 that is stored GIVEN.
        int[] want = {0x0F, 0x0F, 0x0F0F000F, 0, 0x0F, 0x0F};
        for (int f : new int[] {0, 1, 2, 4, 5}) {
            Renewed host = new Asm().mixed(5, -1, 0x0F0F0F0F).words(Asm.store(2, 5, 2, -8), Asm.store(0, 0, 2, -7),
                    Asm.load(f, 6, 2, -8)).host();
            host.run(9);
            Check.due("0x03 F " + f, host.unknown(6), want[f]);
        }
        int[] signs = {-1, -1, -1, 0, 255, 65535};
        for (int f : new int[] {0, 1, 2, 4, 5}) {
            Renewed host = new Asm().word(Asm.load(f, 6, 2, -4)).host();
            host.run(1);
            Check.due("the sign is as it is, F " + f, host.unknown(6), signs[f]);
            Check.due("no ERROR", host.count(5), 0);
        }
        Renewed sign = new Asm().mixed(5, 0, 0x8080).words(Asm.store(1, 5, 2, -2), Asm.load(1, 6, 2, -2), Asm.load(0, 7, 2, -2),
                Asm.load(5, 8, 2, -2)).host();
        sign.run(10);
        Check.due("two octets with sign", sign.unknown(6), 0xFFFF8080);
        Check.due("one octet with sign", sign.unknown(7), 0xFFFFFF80);
        Check.due("two octets without", sign.unknown(8), 0x8080);
        shut();
    }

    /** What is not OPEN is read as GIVEN, octet by octet, though it was stored otherwise. */
    private static void shut() {
        Renewed host = new Asm().li(5, 20000).words(Asm.store(2, 31, 5, 0), Asm.load(2, 6, 5, 0)).host();
        host.run(4);
        Check.due("stored as not GIVEN", host.memory(20000), 255 * 256);
        Check.due("read as GIVEN", host.unknown(6), 0);
        // 57342 and 57343 are not OPEN, 57344 and 57345 are.
        Renewed edge = new Asm().li(5, 57344).words(Asm.store(2, 31, 5, -2), Asm.load(2, 6, 5, -2), Asm.load(1, 7, 5, -1)).host();
        edge.run(5);
        Check.due("the lower octets alone", edge.unknown(6), 0xFFFF0000);
        Check.due("with the sign", edge.unknown(7), 0xFFFFFF00);
    }
}
