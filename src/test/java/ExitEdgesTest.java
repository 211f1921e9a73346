/** Term 3: what an EXIT tells, sentence by sentence, with the edges that each of them names. */
public final class ExitEdgesTest {
    private static final int FIRST = 32784;
    private static final int MIN = Integer.MIN_VALUE;

    public static void main(String[] args) {
        lostByAddresses();
        eachTold();
        behindTheOthers();
        ofItsOctets();
        inRegisters();
        inOpenOctets();
        multiplesOfFour();
        outsideOfTheHeap();
        allGiven();
        inBlocks();
        suchFourOctets();
        foundAnew();
        Check.finish();
    }

    /** Ends with x5, x10 and x11 0, so that only what the program itself keeps can be FOUND. */
    private static Renewed end(Asm asm) {
        return asm.words(Asm.addi(5, 0, 0), Asm.addi(11, 0, 0)).call(1, 0).done();
    }

    private static void lost(String about, Renewed host, int... addresses) {
        Check.due(about + ": EXIT", host.count(0), 1);
        Check.due(about + ": LOST", host.count(5), addresses.length);
        for (int k = 0; k < addresses.length; k++) {
            Check.error(about, host, k, 8, host.count(2), addresses[k], 0, 0, 0, 0);
        }
    }

    private static void lostByAddresses() {
        Check.sentence("EXIT: LIVE BLOCKS that are LOST, by addresses: ERROR 8 each (NUMBER: the address");
        lost("no BLOCK", end(new Asm()));
        lost("one", end(new Asm().call(2, 20)), FIRST);
        lost("of no octets", end(new Asm().call(2, 0)), FIRST);
        lost("three", end(new Asm().call(2, 20).call(2, 0).call(2, 5)), FIRST, FIRST + 48, FIRST + 80);
        lost("the second is FOUND", end(new Asm().call(2, 20).call(2, 0).word(Asm.addi(18, 10, 0)).call(2, 5)), FIRST, FIRST + 80);
        lost("KEPT is not LIVE", end(new Asm().call(2, 20).call(3)));
        lost("free is not LIVE", end(new Asm().call(2, 3000).call(3)));
        // Made in another order than that of their addresses: the last one stands in the place of the first.
        lost("by addresses, not by age", end(new Asm().call(2, 2064).word(Asm.addi(18, 10, 0)).call(2, 20).word(Asm.addi(10, 18, 0)).call(3)
                .word(Asm.addi(18, 0, 0)).call(2, 8)), FIRST, FIRST + 2064 + 16);
        Renewed trap = new Asm().call(2, 20).word(Asm.addi(10, 0, 0)).word(Asm.BREAK).done();
        Check.due("none of a TRAP", trap.count(5), 0);
        Renewed live = end(new Asm().call(2, 20));
        Check.due("LIVE still", live.count(7), 1);
        Check.due("OPEN still", live.memory(FIRST), 65536 + 255 * 256);
    }

    private static void eachTold() {
        Check.sentence("each told, though the PC is the same, with PC and RETURNS of the EXIT");
        Renewed host = new Asm().call(2, 1).call(2, 2).words(Asm.jal(1, 4), Asm.jal(1, 4)).call(1, 0).done();
        for (int k = 0; k < 2; k++) {
            Check.error("LOST " + k, host, k, 8, 52, FIRST + 32 * k, 40, 36, 0, 0);
        }
        Check.due("told", host.count(4), 2);
        Check.due("counted", host.count(5), 2);
        Check.due("nothing more comes", host.run(10), 1);
        Check.due("counted", host.count(5), 2);
    }

    /** So many ERRORS 2, then so many LOST BLOCKS. */
    private static Renewed many(int branches, int blocks) {
        Asm asm = new Asm();
        for (int k = 0; k < branches; k++) {
            asm.word(Asm.branch(0, 31, 0, 4));
        }
        for (int k = 0; k < blocks; k++) {
            asm.call(2, 1);
        }
        return end(asm);
    }

    private static void behindTheOthers() {
        Check.sentence("behind the others, 60 at most with them)");
        int[][] cases = {{0, 59}, {0, 60}, {0, 61}, {1, 59}, {1, 60}, {58, 1}, {59, 1}, {59, 2}, {60, 1}, {61, 3}, {30, 40}};
        for (int[] c : cases) {
            Renewed host = many(c[0], c[1]);
            String about = c[0] + " and " + c[1];
            int told = Math.min(60, c[0] + c[1]);
            Check.due(about + ": told", host.count(4), told);
            Check.due(about + ": counted", host.count(5), c[0] + c[1]);
            for (int k = 0; k < told; k++) {
                boolean other = k < c[0];
                Check.error(about, host, k, other ? 2 : 8, other ? 4 * k : host.count(2), other ? 0 : FIRST + 32 * (k - c[0]));
            }
            Check.outOfBounds(about + ": no more", () -> host.error(told, 0));
        }
        Renewed own = new Asm().call(2, 8).mixed(10, 0, 1).call(1).done();
        Check.error("ERROR 5 of the EXIT comes before", own, 0, 5, 44, 10);
        Check.error("then 8", own, 1, 8, 44, FIRST);
    }

    private static void ofItsOctets() {
        Check.sentence("an address (of one of its n octets; the first one for n 0)");
        int[] sizes = {0, 1, 2, 15, 16, 17, 20};
        for (int n : sizes) {
            for (int i : new int[] {-16, -1, 0, 1, 2, 14, 15, 16, 17, 19, 20, 31, 32}) {
                boolean found = i == 0 || i > 0 && i < n;
                Renewed host = end(new Asm().call(2, n).word(Asm.addi(18, 10, i)));
                Check.due("octet " + i + " of " + n, host.count(5), found ? 0 : 1);
            }
        }
        Renewed next = end(new Asm().call(2, 16).call(2, 16).word(Asm.addi(18, 10, -16)));
        Check.due("between two BLOCKS", next.count(5), 2);
        Renewed large = end(new Asm().call(2, 2048).word(Asm.addi(18, 10, 2047)));
        Check.due("the last of many", large.count(5), 0);
        for (int other : new int[] {FIRST | MIN, FIRST + 65536, FIRST - 65536, 32768, 57343, 57344, 32767, 0, -1, MIN}) {
            Check.due("no address of it: " + other, end(new Asm().call(2, 2048).li(18, other)).count(5), 1);
        }
    }

    private static void inRegisters() {
        Check.sentence("is in a register, all bits GIVEN");
        for (int k = 1; k < 32; k++) {
            boolean last = k == 5 || k == 10 || k == 11 || k == 17;
            Renewed host = end(new Asm().call(2, 20).word(Asm.addi(k, 10, 0)));
            Check.due("x" + k, host.count(5), last ? 1 : 0);
        }
        lost("x10 of the EXIT", new Asm().call(2, 20).call(1).done());
        lost("x11", new Asm().call(2, 20).word(Asm.addi(11, 10, 0)).call(1, 0).done());
        lost("x5", new Asm().call(2, 20).word(Asm.addi(5, 10, 0)).call(1, 0).done());
        for (int bit = 0; bit < 32; bit++) {
            Renewed host = end(new Asm().call(2, 20).mixed(18, FIRST, 1 << bit));
            lost("bit " + bit + " is not GIVEN", host, FIRST);
        }
        lost("all bits GIVEN", end(new Asm().call(2, 20).mixed(18, FIRST, 0)));
    }

    private static void inOpenOctets() {
        Check.sentence("or in four OPEN octets at a multiple of 4 outside of THE HEAP, all GIVEN");
        for (int at : new int[] {1024, 8192, 16376, 16380, 57344, 57348, 60000, 65528, 65532}) {
            lost("at " + at, end(new Asm().call(2, 20).li(5, at).word(Asm.store(2, 10, 5, 0))));
            lost("inside of it, at " + at, end(new Asm().call(2, 20).li(5, at).words(Asm.addi(10, 10, 19), Asm.store(2, 10, 5, 0))));
        }
        for (int at : new int[] {16384, 20000, 32764}) {
            Renewed host = end(new Asm().call(2, 20).li(5, at).word(Asm.store(2, 10, 5, 0)));
            Check.due("not OPEN, at " + at, host.count(5), 2);
            Check.error("not OPEN, at " + at, host, 1, 8, host.count(2), FIRST);
        }
        // The words of the program itself are such octets, too.
        Renewed word = new Asm().call(2, 20).words(Asm.jal(0, 8), FIRST + 4).call(1, 0).done();
        lost("a word of the program", word);
        Renewed image = new Asm().call(2, 20).call(1, 0).at(16380).word(FIRST).done();
        lost("the last word of the IMAGE", image);
    }

    private static void multiplesOfFour() {
        Check.sentence("at a multiple of 4");
        for (int at : new int[] {1024, 57344, 65524}) {
            for (int i = 0; i < 4; i++) {
                // GIVEN zeros round it, so that only its place can be the reason.
                Renewed host = end(new Asm().call(2, 20).li(5, at).words(Asm.store(2, 0, 5, 0), Asm.store(2, 0, 5, 4), Asm.store(2, 10, 5, i)));
                Check.due("at " + (at + i), host.count(5), i == 0 ? 0 : 1);
            }
        }
    }

    private static void outsideOfTheHeap() {
        Check.sentence("outside of THE HEAP");
        Renewed zone = end(new Asm().call(2, 20).words(Asm.store(2, 10, 10, -4)));
        Check.due("in a red zone", zone.count(5), 2);
        Renewed other = end(new Asm().call(2, 20).word(Asm.addi(18, 10, 0)).call(2, 20).words(Asm.store(2, 18, 10, 0), Asm.addi(18, 0, 0)));
        lost("in a BLOCK that is LOST", other, FIRST, FIRST + 48);
        Renewed edges = end(new Asm().call(2, 20).li(5, 32768).words(Asm.store(2, 10, 5, -4), Asm.store(2, 10, 5, 0)).li(5, 57344)
                .word(Asm.store(2, 10, 5, -4)));
        Check.due("beside THE HEAP nothing is OPEN, nor at its ends", edges.count(5), 4);
    }

    private static void allGiven() {
        Check.sentence("all GIVEN");
        for (int bit = 0; bit < 32; bit++) {
            lost("bit " + bit + " is not, on the STACK",
                    end(new Asm().call(2, 20).mixed(18, FIRST, 1 << bit).words(Asm.store(2, 18, 2, -4), Asm.addi(18, 0, 0))), FIRST);
            lost("bit " + bit + " is not, in the IMAGE",
                    end(new Asm().call(2, 20).mixed(18, FIRST, 1 << bit).words(Asm.store(2, 18, 0, 2000), Asm.addi(18, 0, 0))), FIRST);
        }
        lost("all are", end(new Asm().call(2, 20).mixed(18, FIRST, 0).words(Asm.store(2, 18, 2, -4), Asm.addi(18, 0, 0))));
    }

    /** Three BLOCKS of 20 octets, of which x18, x19 and x20 have the addresses. */
    private static Asm three() {
        return new Asm().call(2, 20).word(Asm.addi(18, 10, 0)).call(2, 20).word(Asm.addi(19, 10, 0)).call(2, 20).word(Asm.addi(20, 10, 0));
    }

    private static Asm forget(Asm asm, int... registers) {
        for (int k : registers) {
            asm.word(Asm.addi(k, 0, 0));
        }
        return asm;
    }

    private static void inBlocks() {
        Check.sentence("or in such four octets of a BLOCK that is FOUND");
        int second = FIRST + 48;
        int third = FIRST + 96;
        lost("a chain up", end(forget(three().words(Asm.store(2, 19, 18, 0), Asm.store(2, 20, 19, 16)), 19, 20)));
        lost("a chain down", end(forget(three().words(Asm.store(2, 19, 20, 0), Asm.store(2, 18, 19, 16)), 18, 19)));
        lost("to and fro", end(forget(three().words(Asm.store(2, 20, 18, 0), Asm.store(2, 19, 20, 16)), 19, 20)));
        lost("two in one", end(forget(three().words(Asm.store(2, 20, 18, 0), Asm.store(2, 19, 18, 4)), 19, 20)));
        lost("from the STACK", end(forget(three().words(Asm.store(2, 19, 20, 0), Asm.store(2, 18, 19, 16), Asm.store(2, 20, 2, -4)), 18, 19, 20)));
        lost("cut", end(forget(three().words(Asm.store(2, 19, 18, 0)), 19, 20)), third);
        lost("without its first", end(forget(three().words(Asm.store(2, 19, 18, 0), Asm.store(2, 20, 19, 16)), 18, 19, 20)), FIRST, second, third);
        lost("a ring that nobody has", end(forget(three().words(Asm.store(2, 19, 18, 0), Asm.store(2, 18, 19, 0)), 18, 19)), FIRST, second);
        lost("a ring that is FOUND", end(forget(three().words(Asm.store(2, 19, 18, 0), Asm.store(2, 18, 19, 0)), 18)));
        lost("itself is not enough", end(forget(three().words(Asm.store(2, 18, 18, 0)), 18)), FIRST);
        lost("inside of each", end(forget(three().words(Asm.addi(19, 19, 19), Asm.store(2, 19, 18, 0), Asm.addi(18, 18, 7)), 19)));
        Asm kept = forget(three().words(Asm.store(2, 19, 18, 0), Asm.addi(10, 18, 0)).call(3), 19);
        lost("in a KEPT one", end(kept), second);
        // A BLOCK of no octets is FOUND, and leads nowhere.
        Asm none = new Asm().call(2, 0).word(Asm.addi(18, 10, 0)).call(2, 20).word(Asm.store(2, 10, 18, 0));
        Check.due("of no octets", end(none).count(5), 2);
    }

    private static void suchFourOctets() {
        Check.sentence("such four octets");
        // A BLOCK of n octets is FOUND; at i of it lies the address of another one, as far as it is OPEN there.
        for (int n = 3; n <= 9; n++) {
            for (int i = 0; i <= 6; i++) {
                Renewed host = end(new Asm().call(2, n).word(Asm.addi(18, 10, 0)).call(2, 20).word(Asm.store(2, 10, 18, i)));
                boolean open = i + 4 <= n;
                boolean found = open && i % 4 == 0;
                Check.due("at " + i + " of " + n, host.count(5), (open ? 0 : 1) + (found ? 0 : 1));
            }
        }
        for (int bit : new int[] {0, 8, 16, 24, 31}) {
            Renewed host = end(new Asm().call(2, 8).word(Asm.addi(18, 10, 0)).call(2, 20).mixed(19, FIRST + 32, 1 << bit)
                    .words(Asm.store(2, 19, 18, 4), Asm.addi(19, 0, 0)));
            lost("bit " + bit + " is not GIVEN", host, FIRST + 32);
        }
        Renewed last = end(new Asm().call(2, 2048).word(Asm.addi(18, 10, 0)).call(2, 20).words(Asm.addi(5, 18, 2044), Asm.store(2, 10, 5, 0)));
        lost("the last four of many", last);
    }

    private static void foundAnew() {
        Check.sentence("FOUND are those of which");
        // Two BLOCKS, one in the other, which the STACK has; then the same again, but that the STACK has it no more.
        Asm asm = new Asm().call(2, 20).words(Asm.store(2, 10, 2, -4), Asm.addi(18, 10, 0)).call(2, 20).words(Asm.store(2, 10, 18, 0),
                Asm.addi(18, 0, 0)).call(1, 0);
        Renewed host = asm.done();
        lost("both are FOUND", host);
        host.image(16, 0x0F | (long) Asm.addi(18, 10, 0) << 32);
        host.begin();
        Check.due("EXIT", host.run(100), 1);
        lost("what another EXIT had FOUND does not count", host, FIRST, FIRST + 48);
        asm.into(host);
        Check.due("EXIT", host.run(100), 1);
        lost("both are FOUND again", host);
    }
}
