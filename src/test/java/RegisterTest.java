import java.math.BigInteger;

/** Promise 6: register, with what the INSTRUCTIONS of term 1 reckon. */
public final class RegisterTest {
    private static final int[] NUMBERS = {
        0, 1, -1, 2, -2, 7, -7, 31, 32, 33, 2047, -2048, 65535, 65536, 0x12345678, 0xFEDCBA98,
        Integer.MAX_VALUE, Integer.MIN_VALUE, Integer.MIN_VALUE + 1,
    };

    public static void main(String[] args) {
        wrongInputs();
        zeroStays();
        registers();
        immediates();
        uppersAndJumps();
        branches();
        loadsAndStores();
        Check.finish();
    }

    private static void wrongInputs() {
        Renewed host = new Renewed();
        for (int k : new int[] {-1, 32, Integer.MIN_VALUE, Integer.MAX_VALUE}) {
            Check.outOfBounds("register(" + k + ")", () -> host.register(k));
        }
        Check.due("register(2)", host.register(2), 65536);
        Check.due("register(31)", host.register(31), 0);
    }

    private static void zeroStays() {
        Renewed host = new Asm().words(Asm.addi(0, 0, 5), Asm.lui(0, 0x1000), Asm.jal(0, 4), Asm.load(2, 0, 2, -4),
                Asm.addi(6, 0, 0), Asm.BREAK).done();
        Check.due("x0", host.register(0), 0);
        Check.due("x0 is GIVEN", host.unknown(0), 0);
        Check.due("x6", host.register(6), 0);
    }

    private static void registers() {
        int[][] kinds = {{0, 0}, {0, 1}, {0, 2}, {0, 3}, {0, 4}, {0, 5}, {0, 6}, {0, 7}, {0x20, 0}, {0x20, 5},
            {1, 0}, {1, 1}, {1, 2}, {1, 3}, {1, 4}, {1, 5}, {1, 6}, {1, 7}};
        for (int a : NUMBERS) {
            for (int b : NUMBERS) {
                for (int[] kind : kinds) {
                    Renewed host = new Asm().li(5, a).li(6, b).word(Asm.r(kind[0], kind[1], 7, 5, 6)).host();
                    host.run(5);
                    String about = "G " + kind[0] + " F " + kind[1] + " of " + a + ", " + b;
                    Check.due(about, host.register(7), reckoned(kind[0], kind[1], a, b));
                    Check.due(about + " is GIVEN", host.unknown(7), 0);
                }
            }
        }
    }

    private static BigInteger big(int number, boolean signed) {
        return BigInteger.valueOf(signed ? number : number & 0xFFFFFFFFL);
    }

    private static int reckoned(int g, int f, int a, int b) {
        if (g == 1) {
            return multiplied(f, a, b);
        }
        BigInteger two = BigInteger.TWO.pow(b & 31);
        switch (f) {
            case 0: return big(a, true).add(g == 0 ? big(b, true) : big(b, true).negate()).intValue();
            case 1: return big(a, true).multiply(two).intValue();
            case 2: return big(a, true).compareTo(big(b, true)) < 0 ? 1 : 0;
            case 3: return big(a, false).compareTo(big(b, false)) < 0 ? 1 : 0;
            case 4: return big(a, true).xor(big(b, true)).intValue();
            case 5: return big(a, g == 0x20).shiftRight(b & 31).intValue();
            case 6: return big(a, true).or(big(b, true)).intValue();
            default: return big(a, true).and(big(b, true)).intValue();
        }
    }

    private static int multiplied(int f, int a, int b) {
        boolean signed = f == 4 || f == 6;
        switch (f) {
            case 0: return big(a, true).multiply(big(b, true)).intValue();
            case 1: return big(a, true).multiply(big(b, true)).shiftRight(32).intValue();
            case 2: return big(a, true).multiply(big(b, false)).shiftRight(32).intValue();
            case 3: return big(a, false).multiply(big(b, false)).shiftRight(32).intValue();
            case 4:
            case 5: return b == 0 ? -1 : big(a, signed).divide(big(b, signed)).intValue();
            default: return b == 0 ? a : big(a, signed).remainder(big(b, signed)).intValue();
        }
    }

    private static void immediates() {
        for (int a : NUMBERS) {
            for (int number : new int[] {0, 1, -1, 5, 2047, -2048, -7}) {
                for (int f : new int[] {0, 2, 3, 4, 6, 7}) {
                    Renewed host = new Asm().li(5, a).word(Asm.i(0x13, f, 7, 5, number)).host();
                    host.run(3);
                    Check.due("0x13 F " + f + " of " + a + ", " + number, host.register(7), reckoned(0, f, a, number));
                }
            }
            for (int shift = 0; shift < 32; shift++) {
                for (int[] kind : new int[][] {{0, 1}, {0, 5}, {0x20, 5}}) {
                    Renewed host = new Asm().li(5, a).word(Asm.i(0x13, kind[1], 7, 5, kind[0] << 5 | shift)).host();
                    host.run(3);
                    Check.due("shift " + kind[0] + ", " + kind[1] + " of " + a + " by " + shift, host.register(7),
                            reckoned(kind[0], kind[1], a, shift));
                }
            }
        }
    }

    private static void uppersAndJumps() {
        Renewed host = new Asm().words(Asm.lui(5, 0xFFFFF000), Asm.auipc(6, 0x7FFFF000), Asm.auipc(7, 0)).host();
        host.run(3);
        Check.due("0x37", host.register(5), 0xFFFFF000);
        Check.due("0x17", host.register(6), 0x7FFFF004);
        Check.due("0x17 of 0", host.register(7), 8);
        for (int offset : new int[] {4, 8, 12, 2048, 4096, 0x7FE, 0xFF000, 0xFFFFE, -4, -0x100000, -2048, 2}) {
            Renewed jump = new Asm().word(Asm.addi(0, 0, 0)).word(Asm.jal(9, offset)).host();
            jump.run(2);
            Check.due("0x6F by " + offset, jump.count(2), 4 + offset);
            Check.due("D", jump.register(9), 8);
            Check.due("D is GIVEN", jump.unknown(9), 0);
        }
        Renewed same = new Asm().word(Asm.addi(5, 0, 100)).word(Asm.jalr(5, 5, -3)).host();
        same.run(2);
        Check.due("0x67 reads A before D comes", same.count(2), 96);
        Check.due("D", same.register(5), 8);
        Renewed wraps = new Asm().word(Asm.addi(5, 0, -4)).word(Asm.jalr(0, 5, 12)).host();
        wraps.run(2);
        Check.due("0x67 wraps", wraps.count(2), 8);
    }

    private static void branches() {
        for (int a : NUMBERS) {
            for (int b : NUMBERS) {
                for (int f : new int[] {0, 1, 4, 5, 6, 7}) {
                    boolean taken = f == 0 ? a == b : f == 1 ? a != b : f == 4 ? a < b : f == 5 ? a >= b
                            : f == 6 ? Integer.compareUnsigned(a, b) < 0 : Integer.compareUnsigned(a, b) >= 0;
                    Renewed host = new Asm().li(5, a).li(6, b).word(Asm.branch(f, 5, 6, 64)).host();
                    host.run(5);
                    Check.due("F " + f + " of " + a + ", " + b, host.count(2), taken ? 80 : 20);
                    Check.due("no ERROR", host.count(5), 0);
                }
            }
        }
        for (int offset : new int[] {4, 2, 30, 32, 2046, 2048, 4094, -2, -4096, -2048, -32}) {
            Renewed host = new Asm().word(Asm.branch(0, 0, 0, offset)).host();
            host.run(1);
            Check.due("0x63 by " + offset, host.count(2), offset);
        }
    }

    private static void loadsAndStores() {
        int[] want = {0xFFFFFF83, 0xFFFF8483, 0x85868483, 0, 0x83, 0x8483};
        for (int f : new int[] {0, 1, 2, 4, 5}) {
            for (int shift = 0; shift < 4; shift++) {
                Renewed host = new Asm().li(5, 0x85868483).li(6, 1024 + shift).word(Asm.store(2, 5, 6, 5))
                        .word(Asm.load(f, 7, 6, 5)).host();
                host.run(6);
                Check.due("0x03 F " + f, host.register(7), want[f]);
                Check.due("GIVEN", host.unknown(7), 0);
                Check.due("no ERROR", host.count(5), 0);
            }
        }
        for (int f = 0; f <= 2; f++) {
            Renewed host = new Asm().li(5, 0x44332211).li(6, 4096).word(Asm.store(f, 5, 6, -2048)).host();
            host.run(5);
            for (int i = 0; i < 5; i++) {
                int octet = i < 1 << f ? 0x11 * (i + 1) : 0;
                Check.due("0x23 F " + f + ", octet " + i, host.memory(2048 + i), 65536 + octet);
            }
        }
    }
}
