/** Term 2: the ERRORS of INSTRUCTIONS and the RETURNS, sentence by sentence, with the edges that each names. */
public final class ErrorEdgesTest {
    private static final int FIRST = 32784;

    public static void main(String[] args) {
        ofItsOctets();
        ofBranches();
        ofAddresses();
        ofWhatItReaches();
        inOrder();
        toldOnce();
        sixtyAtMost();
        countedAreAll();
        latestFour();
        putOnTop();
        oldestGoes();
        takenOff();
        behindWhatItTells();
        Check.finish();
    }

    private static void ofItsOctets() {
        Check.sentence("1: its own octets are not all OPEN (NUMBER: the first one that is not)");
        // A BLOCK of n octets; the second of its words is done, 0x0F, and then the third.
        for (int n = 4; n <= 8; n++) {
            Renewed host = new Asm().call(2, n).words(Asm.addi(6, 0, 0x0F), Asm.store(0, 6, 10, 4), Asm.jalr(0, 10, 4)).host();
            Check.due("up to it", host.run(7), 0);
            int before = host.count(5);
            Check.due("the store", before, n > 4 ? 0 : 1);
            Check.due("done all the same", host.run(1), 0);
            Check.due(n + " octets", host.count(5) - before, n < 8 ? 1 : 0);
            if (n < 8) {
                Check.error(n + " octets", host, before, 1, FIRST + 4, FIRST + n, 0, 0, 0, 0);
            }
        }
        Renewed edge = new Asm().li(5, 16380).words(Asm.addi(6, 0, 0x0F), Asm.store(2, 6, 5, 0), Asm.jalr(0, 5, 0)).after(6);
        Check.due("the last word of the IMAGE", edge.count(5), 0);
        edge.run(1);
        Check.error("the next one", edge, 0, 1, 16384, 16384, 0, 0, 0, 0);
        Check.due("TRAP 1 there", edge.count(1), 1);
    }

    private static void ofBranches() {
        Check.sentence("2: of 0x63: a bit of A or B is not GIVEN (NUMBER: 0)");
        for (int f : new int[] {0, 1, 4, 5, 6, 7}) {
            for (int bit : new int[] {0, 15, 31}) {
                Renewed a = new Asm().mixed(5, 3, 1 << bit).words(Asm.addi(6, 0, 3), Asm.branch(f, 5, 6, 8)).after(8);
                Check.error("A, F " + f + ", bit " + bit, a, 0, 2, 28, 0, 0, 0, 0, 0);
                Check.due("one", a.count(5), 1);
                Renewed b = new Asm().mixed(5, 3, 1 << bit).words(Asm.addi(6, 0, 3), Asm.branch(f, 6, 5, 8)).after(8);
                Check.error("B, F " + f + ", bit " + bit, b, 0, 2, 28, 0, 0, 0, 0, 0);
                boolean equal = f == 0 || f == 5 || f == 7;
                Check.due("it goes by what is there", a.count(2), equal ? 36 : 32);
                Check.due("it goes by what is there", b.count(2), equal ? 36 : 32);
            }
        }
        Renewed both = new Asm().word(Asm.branch(0, 5, 5, 8)).after(1);
        Check.due("both are not: one ERROR", both.count(5), 1);
        Renewed given = new Asm().words(Asm.addi(5, 0, 1), Asm.branch(1, 5, 0, 8)).after(2);
        Check.due("both are: none", given.count(5), 0);
    }

    private static void ofAddresses() {
        Check.sentence("3: of an address (0x67, 0x03, 0x23): a bit of A is not (NUMBER: the address, of 0x67 with its bit 0 off)");
        for (int bit : new int[] {0, 1, 15, 31}) {
            Asm start = new Asm().mixed(5, 4097, 1 << bit);
            Check.error("0x03, bit " + bit, start.word(Asm.load(0, 6, 5, -2)).after(7), 0, 3, 24, 4095, 0, 0, 0, 0);
            Check.error("0x23, bit " + bit, new Asm().mixed(5, 4097, 1 << bit).word(Asm.store(0, 0, 5, 2)).after(7), 0, 3, 24, 4099, 0, 0, 0, 0);
            Renewed jump = new Asm().mixed(5, 4097, 1 << bit).word(Asm.jalr(0, 5, 4)).after(7);
            Check.error("0x67, bit " + bit, jump, 0, 3, 24, 4100, 0, 0, 0, 0);
            Check.due("it goes there", jump.count(2), 4100);
        }
        Check.error("0x03, which wraps", new Asm().mixed(5, -1, 1).word(Asm.load(0, 6, 5, 5)).after(7), 0, 3, 24, 4, 0, 0, 0, 0);
        Check.error("0x67, which wraps", new Asm().mixed(5, -1, 1).word(Asm.jalr(0, 5, 0)).after(7), 0, 3, 24, -2, 0, 0, 0, 0);
        Check.due("B of 0x23 may be not GIVEN", new Asm().word(Asm.store(2, 5, 0, 2000)).after(1).count(5), 0);
        Check.due("D of 0x03 may be not GIVEN", new Asm().word(Asm.load(2, 5, 0, 2000)).after(1).count(5), 0);
        Check.due("A of 0x13, 0x33 may be not GIVEN", new Asm().words(Asm.addi(6, 5, 1), Asm.r(1, 4, 6, 5, 7)).after(2).count(5), 0);
        Check.due("all GIVEN", new Asm().words(Asm.addi(5, 0, 12), Asm.load(0, 6, 5, 0), Asm.jalr(0, 5, 0)).after(3).count(5), 0);
    }

    private static void ofWhatItReaches() {
        Check.sentence("4: what it reads or writes is not all OPEN (NUMBER: the first octet that is not; not if it is a TRAP 2)");
        for (int n = 1, f = 0; f <= 2; f++, n *= 2) {
            for (int at = 16384 - n; at <= 16385; at++) {
                boolean shut = at + n > 16384;
                touch(f, at, shut ? Math.max(at, 16384) : -1);
            }
            for (int at = 57343 - n; at <= 57344; at++) {
                touch(f, at, at < 57344 ? at : -1);
            }
        }
        // A BLOCK of no octets, and one of 3: before, in and behind it.
        Renewed none = new Asm().call(2, 0).word(Asm.load(0, 6, 10, 0)).after(5);
        Check.error("no octet of it", none, 0, 4, 16, FIRST);
        for (int i = -1; i <= 3; i++) {
            Renewed host = new Asm().call(2, 3).word(Asm.load(0, 6, 10, i)).after(5);
            Check.due("octet " + i + " of three", host.count(5), i < 0 || i > 2 ? 1 : 0);
        }
        Renewed four = new Asm().call(2, 3).word(Asm.store(2, 0, 10, 0)).after(5);
        Check.error("four octets of three", four, 0, 4, 16, FIRST + 3);
        Renewed beyond = new Asm().word(Asm.load(2, 6, 2, -2)).done();
        Check.due("TRAP 2", beyond.count(1), 2);
        Check.due("none of a TRAP 2", beyond.count(5), 0);
        Check.due("nor where no octet is", new Asm().word(Asm.store(2, 6, 0, -8)).done().count(5), 0);
    }

    private static void touch(int f, int at, int number) {
        for (int word : new int[] {Asm.load(f, 6, 5, 0), Asm.store(f, 0, 5, 0)}) {
            Renewed host = new Asm().li(5, at).word(word).after(3);
            Check.due((1 << f) + " octets at " + at, host.count(5), number < 0 ? 0 : 1);
            if (number >= 0) {
                Check.error((1 << f) + " octets at " + at, host, 0, 4, 8, number, 0, 0, 0, 0);
            }
        }
    }

    private static void inOrder() {
        Check.sentence("ERRORS of an INSTRUCTION, in order");
        // At 20000, not OPEN, each: a branch (1, 2), a jump (1, 3), a read (1, 3, 4), a CALL 3 (1, 5, 7).
        Renewed host = new Asm().li(5, 20000).mixed(6, 20004, 1).li(7, Asm.branch(1, 6, 6, 8)).word(Asm.store(2, 7, 5, 0))
                .li(7, Asm.jalr(0, 6, 4)).word(Asm.store(2, 7, 5, 4)).li(7, Asm.load(0, 8, 6, 0)).word(Asm.store(2, 7, 5, 8))
                .li(7, Asm.CALL).word(Asm.store(2, 7, 5, 12)).words(Asm.addi(17, 0, 3), Asm.i(0x13, 6, 10, 31, 64), Asm.jalr(0, 5, 0)).host();
        Check.due("up to them", host.run(23), 0);
        Check.due("of the stores", host.count(4), 4);
        Check.due("done", host.run(4), 0);
        int[][] want = {{1, 20000, 20000}, {2, 20000, 0}, {1, 20004, 20004}, {3, 20004, 20008}, {1, 20008, 20008}, {3, 20008, 20004},
            {4, 20008, 20004}, {1, 20012, 20012}, {5, 20012, 10}, {7, 20012, 64}};
        for (int k = 0; k < want.length; k++) {
            Check.error("ERROR " + k, host, 4 + k, want[k]);
        }
        Check.due("no more", host.count(5), 14);
    }

    private static void toldOnce() {
        Check.sentence("Each pair of an ERROR (1 to 8) and a PC is told once");
        // Round by round another NUMBER and one RETURN more, but the same PC.
        Renewed host = new Asm().li(5, 20000).words(Asm.jal(1, 4), Asm.store(0, 0, 5, 0), Asm.addi(5, 5, 1), Asm.jal(0, -12)).after(2 + 4 * 5);
        Check.due("told", host.count(4), 1);
        Check.due("counted", host.count(5), 5);
        Check.error("as it came first", host, 0, 4, 12, 20000, 12, 0, 0, 0);
        // The same PC with another ERROR, the same ERROR with another PC.
        Renewed pairs = new Asm().words(Asm.load(0, 6, 5, 100), Asm.load(0, 6, 5, 100), Asm.lui(5, 20480), Asm.jal(0, -12)).after(10);
        Check.due("told", pairs.count(4), 4);
        Check.due("counted", pairs.count(5), 6);
        Check.error("3 at 0", pairs, 0, 3, 0, 100);
        Check.error("3 at 4", pairs, 1, 3, 4, 100);
        Check.error("4 at 0", pairs, 2, 4, 0, 20580);
        Check.error("4 at 4", pairs, 3, 4, 4, 20580);
        eachKindOnce();
    }

    /** Twice each of 1, 2, 3, 5, 6 and 7, by a program that is done two times over. */
    private static void eachKindOnce() {
        Asm asm = new Asm().call(2, 8).word(Asm.addi(18, 10, 0)).call(3).li(5, 20000).li(6, Asm.jalr(0, 9, 0)).word(Asm.store(2, 6, 5, 0));
        int loop = asm.here();
        asm.words(Asm.branch(0, 31, 0, 4), Asm.load(0, 7, 31, 0), Asm.addi(10, 18, 0)).call(3).call(3, 64).words(Asm.addi(17, 31, 0), Asm.CALL,
                Asm.jalr(9, 5, 0));
        int size = asm.here() - loop;
        Renewed host = asm.word(Asm.jal(0, -size)).host();
        host.run(loop / 4 + 2 * (size / 4 + 2));
        int[] which = {4, 2, 3, 6, 7, 5, 1};
        Check.due("told", host.count(4), which.length);
        Check.due("counted", host.count(5), 13);
        for (int k = 0; k < which.length; k++) {
            Check.error("told " + k, host, k, which[k]);
        }
    }

    /** So many branches, each with an ERROR 2 of its own. */
    private static Asm branches(int n) {
        Asm asm = new Asm();
        for (int k = 0; k < n; k++) {
            asm.word(Asm.branch(0, 31, 0, 4));
        }
        return asm;
    }

    private static void sixtyAtMost() {
        Check.sentence("60 at most");
        for (int n : new int[] {59, 60, 61, 200}) {
            Renewed host = branches(n).after(n);
            Check.due("told of " + n, host.count(4), Math.min(n, 60));
            Check.due("counted of " + n, host.count(5), n);
            Check.error("the last told of " + n, host, Math.min(n, 60) - 1, 2, 4 * Math.min(n, 60) - 4, 0, 0, 0, 0, 0);
            Check.outOfBounds("one more of " + n, () -> host.error(Math.min(n, 60), 0));
        }
        // Those of before that come again take no place.
        Renewed again = branches(59).word(Asm.branch(1, 6, 0, 8)).words(Asm.addi(6, 0, 1), Asm.jal(0, -4 * 61)).host();
        again.run(62 + 60);
        Check.due("told", again.count(4), 60);
        Check.due("counted", again.count(5), 119);
    }

    private static void countedAreAll() {
        Check.sentence("(counted are all, each time that they come)");
        Renewed host = new Asm().words(Asm.branch(0, 31, 0, 4), Asm.jal(0, -4)).host();
        for (int k = 1; k <= 5; k++) {
            host.run(2);
            Check.due("after " + k + " rounds", host.count(5), k);
            Check.due("told", host.count(4), 1);
        }
        host.run(100000);
        Check.due("after many", host.count(5), 50005);
        Renewed full = branches(60).words(Asm.store(0, 0, 31, -1)).done();
        Check.due("behind the 60 told, too", full.count(5), 61);
    }

    private static void latestFour() {
        Check.sentence("with the latest four RETURNS");
        Asm asm = new Asm();
        for (int k = 0; k < 6; k++) {
            asm.words(Asm.branch(0, 31, 0, 4), Asm.jal(1, 4));
        }
        Renewed host = asm.after(12);
        for (int k = 0; k < 6; k++) {
            int[] want = {2, 8 * k, 0, 0, 0, 0, 0};
            for (int i = 0; i < 4 && i < k; i++) {
                want[3 + i] = 8 * (k - i);
            }
            Check.error(k + " RETURNS", host, k, want);
        }
    }

    private static void putOnTop() {
        Check.sentence("D of 0x6F, 0x67 is x1: PC + 4 is put on top of these");
        Renewed jump = new Asm().words(Asm.jal(1, 8), 0, Asm.branch(0, 31, 0, 4)).after(2);
        Check.due("0x6F", jump.count(10), 1);
        Check.error("0x6F", jump, 0, 2, 8, 0, 4, 0, 0, 0);
        Renewed to = new Asm().words(Asm.jalr(1, 0, 8), 0, Asm.branch(0, 31, 0, 4)).after(2);
        Check.due("0x67", to.count(10), 1);
        Check.error("0x67", to, 0, 2, 8, 0, 4, 0, 0, 0);
        Renewed both = new Asm().words(Asm.jal(1, 4), Asm.jalr(1, 1, 4), Asm.branch(0, 31, 0, 4)).after(3);
        Check.due("D and A x1: put on, none taken off", both.count(10), 2);
        Check.error("D and A x1", both, 0, 2, 8, 0, 8, 4, 0, 0);
        for (int d = 0; d < 32; d++) {
            Check.due("0x6F, D x" + d, new Asm().word(Asm.jal(d, 4)).after(1).count(10), d == 1 ? 1 : 0);
            Check.due("0x67, D x" + d, new Asm().word(Asm.jalr(d, 0, 4)).after(1).count(10), d == 1 ? 1 : 0);
        }
        Check.due("other INSTRUCTIONS with D x1", new Asm().words(Asm.addi(1, 0, 4), Asm.auipc(1, 0), Asm.lui(1, 0), Asm.load(0, 1, 0, 0),
                Asm.r(0, 0, 1, 1, 1), Asm.branch(0, 0, 0, 4)).after(6).count(10), 0);
    }

    private static void oldestGoes() {
        Check.sentence("(32 at most: the oldest one goes)");
        for (int n : new int[] {31, 32, 33, 40, 70}) {
            Asm asm = new Asm();
            for (int k = 0; k < n; k++) {
                asm.word(Asm.jal(1, 4));
            }
            for (int k = 0; k < 32; k++) {
                asm.words(Asm.branch(0, 31, 0, 4), Asm.auipc(1, 0), Asm.jalr(5, 1, 8));
            }
            Renewed host = asm.word(Asm.branch(0, 31, 0, 4)).host();
            host.run(n);
            Check.due(n + " put on", host.count(10), Math.min(n, 32));
            for (int k = 0; k < 32; k++) {
                Check.due(k + " taken off of " + n, host.count(10), Math.max(0, Math.min(n, 32) - k));
                host.run(3);
            }
            host.run(1);
            Check.due("none is left", host.count(10), 0);
            for (int k = 0; k <= 32; k++) {
                int[] want = {2, 4 * n + 12 * k, 0, 0, 0, 0, 0};
                for (int i = 0; i < 4 && k + i < Math.min(n, 32); i++) {
                    want[3 + i] = 4 * (n - k - i);
                }
                Check.error(n + " put on, " + k + " taken off", host, k, want);
            }
        }
    }

    private static void takenOff() {
        Check.sentence("0x67 with A x1, D not: the top one is taken off, if there is one");
        for (int d = 0; d < 32; d++) {
            Renewed host = new Asm().words(Asm.jal(1, 4), Asm.jal(1, 4), Asm.jalr(d, 1, 4), Asm.branch(0, 31, 31, 4)).after(3);
            Check.due("D x" + d, host.count(10), d == 1 ? 3 : 1);
        }
        for (int a = 0; a < 32; a++) {
            Renewed host = new Asm().words(Asm.jal(1, 4)).word(Asm.addi(a, 0, 12)).word(Asm.jalr(0, a, 0)).after(3);
            Check.due("A x" + a, host.count(10), a == 1 ? 0 : 1);
        }
        Renewed none = new Asm().words(Asm.addi(1, 0, 8), Asm.jalr(0, 1, 0), Asm.jal(1, 4), Asm.branch(0, 31, 0, 4)).host();
        Check.due("if there is none", none.run(2), 0);
        Check.due("none", none.count(10), 0);
        none.run(2);
        Check.due("then one is put on", none.count(10), 1);
        Check.error("just this one", none, 0, 2, 12, 0, 12, 0, 0, 0);
        Renewed trap = new Asm().words(Asm.jal(1, 4), Asm.jalr(0, 1, 2)).after(3);
        Check.due("PC there is a TRAP 0, which comes later", trap.count(10), 0);
        Check.due("the TRAP", trap.count(0), 2);
    }

    private static void behindWhatItTells() {
        Check.sentence("(behind what it tells)");
        Renewed off = new Asm().words(Asm.jal(1, 4), Asm.i(0x13, 7, 5, 31, 1), Asm.r(0, 4, 1, 1, 5), Asm.jalr(0, 1, 12), Asm.branch(0, 31, 0, 4))
                .after(5);
        Check.error("taken off: told with it", off, 0, 3, 12, 16, 4, 0, 0, 0);
        Check.error("taken off: the next one without", off, 1, 2, 16, 0, 0, 0, 0, 0);
        // Also ERROR 1 of the INSTRUCTION that takes it off.
        Renewed shut = new Asm().li(5, 20000).li(6, Asm.jalr(0, 1, 0)).words(Asm.store(2, 6, 5, 0), Asm.jalr(1, 5, 0), Asm.branch(0, 31, 0, 4))
                .after(8);
        Check.error("ERROR 1, too", shut, 1, 1, 20000, 20000, 24, 0, 0, 0);
        Check.error("and then none", shut, 2, 2, 24, 0, 0, 0, 0, 0);
        Renewed on = new Asm().words(Asm.jalr(1, 5, 4), Asm.branch(0, 31, 0, 4)).after(2);
        Check.error("put on: told without", on, 0, 3, 0, 4, 0, 0, 0, 0);
        Check.error("put on: the next one with it", on, 1, 2, 4, 0, 4, 0, 0, 0);
    }
}
