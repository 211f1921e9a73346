/** Promise 9: error, with the ERRORS 1 to 5 and the RETURNS of term 2. */
public final class ErrorTest {
    private static final int FIRST = 32784;

    public static void main(String[] args) {
        wrongInputs();
        ofInstructions();
        ofBranches();
        ofAddresses();
        ofOctets();
        inOrder();
        ofCalls();
        toldOnce();
        sixtyAtMost();
        returns();
        Check.finish();
    }

    private static void wrongInputs() {
        Renewed host = new Asm().words(Asm.branch(0, 5, 0, 4), Asm.BREAK).done();
        Check.due("one", host.count(4), 1);
        for (int what : new int[] {-1, 7, 8, Integer.MIN_VALUE, Integer.MAX_VALUE}) {
            Check.illegal("error(0, " + what + ")", () -> host.error(0, what));
            Check.illegal("named first: error(9, " + what + ")", () -> host.error(9, what));
        }
        for (int k : new int[] {-1, 1, 60, Integer.MIN_VALUE, Integer.MAX_VALUE}) {
            Check.outOfBounds("error(" + k + ", 6)", () -> host.error(k, 6));
        }
        Check.error("the branch", host, 0, 2, 0, 0, 0, 0, 0, 0);
    }

    private static void ofInstructions() {
        // A jump to octets that are not OPEN: there lies 0, a TRAP 1, and ERROR 1 all the same.
        Renewed shut = new Asm().li(5, 16384).word(Asm.jalr(0, 5, 0)).done();
        Check.due("TRAP 1", shut.count(1), 1);
        Check.due("PC", shut.count(2), 16384);
        Check.error("ERROR 1", shut, 0, 1, 16384, 16384, 0, 0, 0, 0);
        Check.due("alone", shut.count(5), 1);
        // A BLOCK of 6 octets: its second word is OPEN by half. 0x73 in it is a CALL of 0, 0x13 nothing.
        Renewed half = new Asm().call(2, 6).words(Asm.addi(6, 0, 0x13), Asm.store(2, 6, 10, 0), Asm.store(1, 6, 10, 4),
                Asm.jalr(0, 10, 0)).done();
        Check.due("TRAP 1 behind both", half.count(2), 32784 + 8);
        Check.error("the first octet that is not OPEN", half, 0, 1, 32788, 32790);
        Check.error("then none is", half, 1, 1, 32792, 32792);
        Check.due("the first word is OPEN", half.count(5), 2);
        for (int n = 5; n <= 8; n++) {
            // All octets of the second word have bits in common, so that none of them stands for OPEN by chance.
            Renewed some = new Asm().call(2, n).li(6, 0x1F1F1F17).words(Asm.store(2, 6, 10, 4), Asm.jalr(0, 10, 4)).done();
            Check.due("the word is done", some.register(30), 0x1F1F1000 + FIRST + 4);
            boolean whole = n == 8;
            Check.error("OPEN are " + n, some, 0, whole ? 1 : 4, whole ? FIRST + 8 : 24, FIRST + n);
            Check.due("and of the word itself", some.count(5), whole ? 1 : 3);
        }
        // TRAP 3 with ERROR 1.
        Renewed breaks = new Asm().li(5, 20000).li(6, Asm.BREAK).words(Asm.store(2, 6, 5, 0), Asm.jalr(0, 5, 0)).done();
        Check.due("TRAP 3", breaks.count(1), 3);
        Check.error("of the store", breaks, 0, 4, 16, 20000);
        Check.error("of the TRAP", breaks, 1, 1, 20000, 20000);
    }

    private static void ofBranches() {
        for (int f : new int[] {0, 1, 4, 5, 6, 7}) {
            Renewed host = new Asm().words(Asm.addi(5, 0, 1), Asm.branch(f, 5, 6, 8), Asm.BREAK, Asm.BREAK).done();
            Check.error("B, F " + f, host, 0, 2, 4, 0, 0, 0, 0, 0);
            Check.due("one", host.count(5), 1);
            Renewed other = new Asm().words(Asm.addi(5, 0, 1), Asm.branch(f, 6, 5, 8), Asm.BREAK, Asm.BREAK).done();
            Check.error("A, F " + f, other, 0, 2, 4, 0, 0, 0, 0, 0);
            Check.due("A as it is", other.count(2), f == 1 || f == 4 || f == 6 ? 12 : 8);
        }
    }

    private static void ofAddresses() {
        Renewed load = new Asm().words(Asm.load(2, 6, 5, 100), Asm.BREAK).done();
        Check.error("0x03", load, 0, 3, 0, 100);
        Check.due("read all the same", load.unknown(6), 0);
        Renewed store = new Asm().words(Asm.store(2, 0, 5, 2047), Asm.BREAK).done();
        Check.error("0x23", store, 0, 3, 0, 2047);
        Renewed jump = new Asm().words(Asm.jalr(0, 5, 9), Asm.BREAK, Asm.BREAK).done();
        Check.error("0x67, bit 0 off", jump, 0, 3, 0, 8);
        Check.due("goes there", jump.count(2), 8);
        Renewed back = new Asm().word(Asm.jalr(0, 5, -1)).done();
        Check.error("0x67, below 0", back, 0, 3, 0, -2);
        // One bit of A is enough.
        Renewed bit = new Asm().li(6, 0x40000000).words(Asm.r(0, 7, 5, 31, 6), Asm.load(0, 6, 5, 64), Asm.BREAK).done();
        Check.error("one bit", bit, 0, 3, 12, 64);
    }

    private static void ofOctets() {
        Renewed host = new Asm().li(5, 16384).words(Asm.load(2, 6, 5, -4), Asm.load(2, 6, 5, -3), Asm.load(1, 6, 5, -1),
                Asm.store(2, 0, 5, -1), Asm.store(0, 0, 5, 7), Asm.load(0, 6, 5, -1), Asm.BREAK).done();
        Check.error("three octets are OPEN", host, 0, 4, 12, 16384);
        Check.error("one is", host, 1, 4, 16, 16384);
        Check.error("written", host, 2, 4, 20, 16384);
        Check.error("none is", host, 3, 4, 24, 16391);
        Check.due("four", host.count(5), 4);
        Renewed stack = new Asm().li(5, 57344).words(Asm.load(2, 6, 5, -1), Asm.load(2, 6, 5, 0), Asm.BREAK).done();
        Check.error("before the STACK", stack, 0, 4, 8, 57343);
        Check.due("one", stack.count(5), 1);
    }

    private static void inOrder() {
        // At 20000, not OPEN: a read by x6, 20004 and not GIVEN in bit 0: ERRORS 1, 3 and 4 of one INSTRUCTION.
        Renewed host = new Asm().li(5, 20000).li(7, Asm.load(2, 8, 6, 8)).words(Asm.store(2, 7, 5, 0), Asm.i(0x13, 7, 6, 31, 1),
                Asm.r(0, 4, 6, 6, 5), Asm.jalr(1, 5, 0)).done();
        Check.error("of the store", host, 0, 4, 16, 20000, 0, 0, 0, 0);
        Check.error("1", host, 1, 1, 20000, 20000, 32, 0, 0, 0);
        Check.error("3", host, 2, 3, 20000, 20008, 32, 0, 0, 0);
        Check.error("4", host, 3, 4, 20000, 20008, 32, 0, 0, 0);
        Check.error("the next INSTRUCTION", host, 4, 1, 20004, 20004, 32, 0, 0, 0);
        Check.due("all", host.count(5), 5);
    }

    private static void ofCalls() {
        Renewed which = new Asm().words(Asm.CALL, Asm.BREAK).done();
        Check.error("x17", which, 0, 5, 0, 17);
        Check.due("x17 alone", which.count(5), 1);
        Check.due("others tell -1", which.register(10), -1);
        Check.due("all GIVEN", which.unknown(10), 0);
        for (int call = 0; call <= 8; call++) {
            boolean uses = call >= 1 && call <= 5;
            Renewed none = new Asm().call(call).word(Asm.BREAK).done();
            Check.due("x10 not GIVEN, CALL " + call, none.count(5), uses ? 1 : 0);
            if (uses) {
                Check.error("CALL " + call, none, 0, 5, 4, 10);
            }
            Renewed second = new Asm().call(call, 0).word(Asm.BREAK).done();
            Check.due("x11 not GIVEN, CALL " + call, second.count(5), call == 4 ? 1 : 0);
            if (call == 4) {
                Check.error("CALL 4", second, 0, 5, 12, 11);
            }
        }
        Renewed octet = new Asm().li(6, 0x7FFFFF00).words(Asm.r(0, 7, 10, 31, 6)).call(5).words(Asm.BREAK).done();
        Check.due("of 5 the lowest 8 bits alone", octet.count(5), 0);
        Renewed bit = new Asm().li(6, 0x80).words(Asm.r(0, 7, 10, 31, 6)).call(5).words(Asm.BREAK).done();
        Check.error("one of these", bit, 0, 5, 16, 10);
        Check.due("x10 stays", bit.unknown(10), 0x80);
    }

    private static void toldOnce() {
        // Three rounds of one branch, not GIVEN, and of one store that is not OPEN.
        Renewed host = new Asm().li(5, 20000).words(Asm.addi(6, 0, 3), Asm.store(0, 0, 5, 0), Asm.branch(0, 31, 6, 4),
                Asm.addi(5, 5, 1), Asm.addi(6, 6, -1), Asm.branch(1, 6, 0, -16), Asm.BREAK).done();
        Check.due("told", host.count(4), 2);
        Check.due("counted", host.count(5), 6);
        Check.error("the first NUMBER stays", host, 0, 4, 12, 20000);
        Check.error("the branch", host, 1, 2, 16, 0);
        // Another ERROR of the same PC is another pair.
        Renewed pair = new Asm().words(Asm.store(0, 0, 5, 100), Asm.lui(5, 20480), Asm.jal(0, -8)).host();
        pair.run(9);
        Check.error("3", pair, 0, 3, 0, 100);
        Check.error("4", pair, 1, 4, 0, 20580);
        Check.due("counted", pair.count(5), 3);
        Check.due("told", pair.count(4), 2);
    }

    private static void sixtyAtMost() {
        Asm asm = new Asm();
        for (int k = 0; k < 70; k++) {
            asm.word(Asm.branch(0, 31, 0, 4));
        }
        Renewed host = asm.call(2, 8).li(10, 0).call(1).done();
        Check.due("told", host.count(4), 60);
        Check.due("counted, with the LOST one", host.count(5), 71);
        Check.error("the last", host, 59, 2, 59 * 4, 0);
        Check.outOfBounds("error(60, 0)", () -> host.error(60, 0));
    }

    private static void returns() {
        // Five deep, each with an ERROR 2: only the latest four are told.
        Asm asm = new Asm();
        for (int k = 0; k < 5; k++) {
            asm.words(Asm.jal(1, 4), Asm.branch(0, 31, 0, 4));
        }
        Renewed host = asm.word(Asm.BREAK).done();
        Check.error("one RETURN", host, 0, 2, 4, 0, 4, 0, 0, 0);
        Check.error("two", host, 1, 2, 12, 0, 12, 4, 0, 0);
        Check.error("four", host, 3, 2, 28, 0, 28, 20, 12, 4);
        Check.error("the latest four", host, 4, 2, 36, 0, 36, 28, 20, 12);
        Check.due("five", host.count(10), 5);
        // 0x67 with A x1 not GIVEN takes the top off behind what it tells.
        Renewed back = new Asm().words(Asm.jal(1, 4), Asm.i(0x13, 7, 5, 31, 1), Asm.r(0, 4, 1, 1, 5), Asm.jalr(0, 1, 12),
                Asm.branch(0, 31, 0, 4), Asm.BREAK).done();
        Check.error("told with it", back, 0, 3, 12, 16, 4, 0, 0, 0);
        Check.error("told without", back, 1, 2, 16, 0, 0, 0, 0, 0);
        Check.due("none", back.count(10), 0);
        // 0x67 with D x1 is put on behind what it tells.
        Renewed on = new Asm().words(Asm.jalr(1, 5, 4), Asm.branch(0, 31, 0, 4), Asm.BREAK).done();
        Check.error("told without", on, 0, 3, 0, 4, 0, 0, 0, 0);
        Check.error("told with it", on, 1, 2, 4, 0, 4, 0, 0, 0);
        ring();
    }

    private static void ring() {
        Asm asm = new Asm();
        for (int k = 0; k < 40; k++) {
            asm.word(Asm.jal(1, 4));
        }
        for (int k = 0; k < 33; k++) {
            asm.words(Asm.branch(0, 31, 0, 4), Asm.auipc(1, 0), Asm.jalr(5, 1, 8));
        }
        Renewed host = asm.word(Asm.BREAK).host();
        host.run(40);
        Check.due("32 at most", host.count(10), 32);
        host.run(1000);
        Check.due("TRAP 3", host.count(1), 3);
        Check.due("all taken off, and one that was not there", host.count(10), 0);
        Check.error("the latest", host, 0, 2, 160, 0, 160, 156, 152, 148);
        Check.error("the oldest that is left", host, 31, 2, 160 + 31 * 12, 0, 36, 0, 0, 0);
        Check.error("none", host, 32, 2, 160 + 32 * 12, 0, 0, 0, 0, 0);
        Renewed both = new Asm().words(Asm.jal(1, 4), Asm.jalr(1, 1, 4), Asm.jalr(0, 0, 12), Asm.BREAK).done();
        Check.due("A and D x1: put on alone", both.count(10), 2);
        Check.due("D x1 of others puts none on", new Asm().words(Asm.addi(1, 0, 4), Asm.jal(5, 4), Asm.BREAK).done().count(10), 0);
    }
}
