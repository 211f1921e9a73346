/** Term 3: THE HEAP, sentence by sentence, with the edges that each of them names. */
public final class HeapEdgesTest {
    private static final int FIRST = 32784;
    private static final int END = 57344;
    private static final int OPEN_UNGIVEN = 65536 + 255 * 256;

    public static void main(String[] args) {
        notOpen();
        sizes();
        takes();
        liesInTheHeap();
        leastAddress();
        neighbours();
        itsOctets();
        givenBack();
        keptAtMost();
        itselfFree();
        keptErrors();
        noBlockErrors();
        nothingIsDone();
        Check.finish();
    }

    private static void notOpen() {
        Check.sentence("THE HEAP: 32768 to 57343, not OPEN");
        for (int at : new int[] {32768, 32784, 45000, 57343}) {
            Check.due("octet " + at, new Renewed().memory(at), 0);
            Renewed host = new Asm().li(5, at).word(Asm.load(0, 6, 5, 0)).after(3);
            Check.error("read at " + at, host, 0, 4, 8, at, 0, 0, 0, 0);
        }
    }

    private static void sizes() {
        Check.sentence("A BLOCK of n octets (0 to 16384; n without sign; else none is made)");
        for (int n : new int[] {0, 1, 16383, 16384}) {
            Renewed host = new Asm().call(2, n).after(4);
            Check.due("of " + n, host.register(10), FIRST);
            Check.due("of " + n + ": LIVE", host.count(7), 1);
            Check.due("of " + n + ": octets", host.count(9), n);
        }
        for (int n : new int[] {16385, 16400, 24544, 65536, Integer.MAX_VALUE, Integer.MIN_VALUE, -16384, -16, -1}) {
            Renewed host = new Asm().call(2, n).after(4);
            Check.due("of " + n, host.register(10), 0);
            Check.due("of " + n + ": LIVE", host.count(7), 0);
            Check.due("of " + n + ": octets", host.count(9), 0);
            Check.due("of " + n + ": ERRORS", host.count(5), 0);
        }
    }

    private static void takes() {
        Check.sentence("takes n octets up to a multiple of 16 (16 at least)");
        int[][] cases = {{0, 16}, {1, 16}, {15, 16}, {16, 16}, {17, 32}, {31, 32}, {32, 32}, {33, 48}, {2047, 2048}, {2049, 2064}, {16384, 16384}};
        for (int[] c : cases) {
            Renewed host = new Asm().call(2, c[0]).call(2, 0).after(8);
            Check.due("the next one behind " + c[0], host.register(10), FIRST + c[1] + 16);
        }
    }

    private static void liesInTheHeap() {
        Check.sentence("with 16 more before and 16 behind lie in THE HEAP");
        Check.due("16 before", new Asm().call(2, 0).after(4).register(10), 32768 + 16);
        // Behind 16384 octets there are 8144 left with 16 on both sides.
        int left = END - 16 - (FIRST + 16384 + 16);
        for (int n : new int[] {left - 1, left, left + 1}) {
            Renewed host = new Asm().call(2, 16384).call(2, n).after(8);
            Check.due(n + " octets", host.register(10), n <= left ? FIRST + 16400 : 0);
        }
        Renewed full = new Asm().words(Asm.addi(17, 0, 2), Asm.addi(10, 0, 0), Asm.CALL, Asm.branch(1, 10, 0, -8), Asm.BREAK).done();
        Check.due("BLOCKS of 0 octets", full.count(7), (END - 32768) / 32 - 1);
        for (int n : new int[] {0, 16, 17}) {
            Renewed last = new Asm().call(2, 16384).call(2, left - 32).call(2, n).after(12);
            Check.due("the last address, for " + n, last.register(10), n <= 16 ? END - 32 : 0);
        }
    }

    private static void leastAddress() {
        Check.sentence("stands at the least address, a multiple of 16, at which these");
        // Three BLOCKS, of which the first and the second are free again: two holes that are one.
        Asm asm = new Asm().call(2, 2064).word(Asm.addi(18, 10, 0)).call(2, 3000).word(Asm.addi(19, 10, 0)).call(2, 16).word(Asm.addi(20, 10, 0));
        asm.word(Asm.addi(10, 18, 0)).call(3);
        Renewed one = asm.call(2, 2064).word(Asm.BREAK).done();
        Check.due("the hole, just as large", one.register(10), FIRST);
        Renewed more = new Asm().call(2, 2064).word(Asm.addi(18, 10, 0)).call(2, 3000).word(Asm.addi(19, 10, 0)).word(Asm.addi(10, 18, 0)).call(3)
                .call(2, 2065).word(Asm.BREAK).done();
        Check.due("the hole is too small by 1", more.register(10), FIRST + 2064 + 16 + 3008 + 16);
        Renewed both = new Asm().call(2, 2064).word(Asm.addi(18, 10, 0)).call(2, 3000).word(Asm.addi(19, 10, 0)).call(2, 16)
                .words(Asm.addi(10, 18, 0)).call(3).word(Asm.addi(10, 19, 0)).call(3).call(2, 2064 + 16 + 3008).word(Asm.BREAK).done();
        Check.due("two holes are one", both.register(10), FIRST);
        Renewed second = new Asm().call(2, 2064).word(Asm.addi(18, 10, 0)).call(2, 3000).word(Asm.addi(19, 10, 0)).call(2, 16)
                .words(Asm.addi(10, 19, 0)).call(3).call(2, 64).word(Asm.addi(21, 10, 0)).call(2, 64).word(Asm.BREAK).done();
        Check.due("in a hole", second.register(21), FIRST + 2064 + 16);
        Check.due("behind that", second.register(10), FIRST + 2064 + 16 + 64 + 16);
        for (int n : new int[] {1, 7, 16, 100}) {
            Check.due("a multiple of 16", new Asm().call(2, n).call(2, n).after(8).register(10) % 16, 0);
        }
    }

    private static void neighbours() {
        Check.sentence("none of them is one that another BLOCK takes that is LIVE or KEPT");
        Renewed live = new Asm().call(2, 16).call(2, 16).after(8);
        Check.due("LIVE: 16 octets between", live.register(10), FIRST + 32);
        Renewed kept = new Asm().call(2, 16).call(3).call(2, 16).after(10);
        Check.due("KEPT: 16 octets between", kept.register(10), FIRST + 32);
        Renewed free = new Asm().call(2, 2049).call(3).call(2, 16).after(10);
        Check.due("free again", free.register(10), FIRST);
        Renewed keptEnd = new Asm().call(2, 2048).word(Asm.addi(18, 10, 0)).call(2, 16).word(Asm.addi(10, 18, 0)).call(3).call(2, 1)
                .word(Asm.BREAK).done();
        Check.due("a KEPT one of 2048 is no hole", keptEnd.register(10), FIRST + 2048 + 16 + 32);
    }

    private static void itsOctets() {
        Check.sentence("Its n octets are OPEN, no bit GIVEN, as they are");
        for (int n : new int[] {0, 1, 15, 16, 17}) {
            // Before it is made 0x55 is stored all over there, GIVEN.
            Asm asm = new Asm().words(Asm.addi(5, 0, 0x55)).li(6, FIRST - 16);
            for (int i = 0; i < 64; i++) {
                asm.word(Asm.store(0, 5, 6, i));
            }
            Renewed host = asm.call(2, n).word(Asm.BREAK).done();
            for (int i = -16; i < 48; i++) {
                boolean own = i >= 0 && i < n;
                Check.due("octet " + i + " of " + n, host.memory(FIRST + i), own ? OPEN_UNGIVEN + 0x55 : 0x55);
            }
        }
        // What was not GIVEN in the red zones stays so.
        Renewed zones = new Asm().li(6, FIRST).words(Asm.store(2, 31, 6, -4), Asm.store(2, 31, 6, 4)).call(2, 4).after(8);
        Check.due("before it", zones.memory(FIRST - 1), 255 * 256);
        Check.due("behind it", zones.memory(FIRST + 4), 255 * 256);
        // A BLOCK that stands where another one stood has its octets.
        Renewed again = new Asm().call(2, 3000).words(Asm.addi(5, 0, 0x66), Asm.store(0, 5, 10, 9)).call(3).call(2, 3000).word(Asm.BREAK).done();
        Check.due("the same place", again.register(10), FIRST);
        Check.due("what lay there", again.memory(FIRST + 9), OPEN_UNGIVEN + 0x66);
    }

    private static void givenBack() {
        Check.sentence("Given back: LIVE: its n octets are not OPEN, all GIVEN; it is KEPT, the latest one");
        for (int n : new int[] {0, 1, 16, 17, 2048, 2049}) {
            Renewed host = new Asm().call(2, n).words(Asm.addi(5, 0, 0x77), Asm.store(0, 5, 10, n / 2)).call(3).word(Asm.BREAK).done();
            Check.due(n + ": the first octet", host.memory(FIRST), n / 2 == 0 ? 0x77 : 0);
            Check.due(n + ": an octet", host.memory(FIRST + n / 2), 0x77);
            Check.due(n + ": the last octet", host.memory(FIRST + Math.max(0, n - 1)), n / 2 == Math.max(0, n - 1) ? 0x77 : 0);
            Check.due(n + ": LIVE", host.count(7), 0);
            Check.due(n + ": KEPT", host.count(8), n <= 2048 ? 1 : 0);
            Check.due(n + ": LIVE octets", host.count(9), 0);
        }
        // Only its n octets: what is not GIVEN before and behind them stays so.
        Renewed beside = new Asm().call(2, 4).words(Asm.store(2, 31, 10, 4), Asm.store(2, 31, 10, -4)).call(3).word(Asm.load(0, 6, 10, 0)).after(9);
        Check.due("before it", beside.memory(FIRST - 1), 255 * 256);
        Check.due("behind it", beside.memory(FIRST + 4), 255 * 256);
        Check.error("what is KEPT is not OPEN", beside, 2, 4, 32, FIRST);
        // In this order they are KEPT, not by addresses: the second was given back first and goes first.
        Renewed order = keep(new int[] {1000, 1000, 1000}, new int[] {1, 0, 2});
        Check.due("two are left", order.count(8), 2);
        Check.due("the oldest is free", order.register(10), FIRST + 1008 + 16);
    }

    /** BLOCKS of these sizes are made and given back in this order; then one of 1 octet is made. */
    private static Renewed keep(int[] sizes, int[] order) {
        Asm asm = new Asm();
        for (int k = 0; k < sizes.length; k++) {
            asm.call(2, sizes[k]).word(Asm.addi(18 + k, 10, 0));
        }
        for (int k : order) {
            asm.word(Asm.addi(10, 18 + k, 0)).call(3);
        }
        return asm.call(2, 1).word(Asm.BREAK).done();
    }

    private static void keptAtMost() {
        Check.sentence("as long as those KEPT have more than 2048 octets (n each) the oldest one is free again");
        int[] order = {0, 1, 2, 3};
        int[][] sizes = {{1024, 1024, 0, 0}, {1024, 1025, 0, 0}, {1024, 1024, 1, 0}, {0, 1024, 1024, 1}, {1000, 1000, 48, 0}, {1000, 1000, 49, 0},
            {500, 500, 500, 2048}, {500, 500, 500, 548}, {500, 500, 500, 549}, {500, 500, 500, 1048}, {500, 500, 500, 1049}, {2048, 0, 0, 0},
            {0, 0, 0, 2048}, {2048, 0, 0, 1}, {0, 0, 2000, 49}, {1, 1, 1, 2048}};
        // How many of those given back first are free again.
        int[] free = {0, 1, 1, 2, 0, 1, 3, 0, 1, 1, 2, 0, 0, 1, 3, 3};
        for (int k = 0; k < sizes.length; k++) {
            Renewed host = keep(sizes[k], order);
            String about = java.util.Arrays.toString(sizes[k]);
            Check.due(about + ": KEPT", host.count(8), 4 - free[k]);
            boolean firstHole = free[k] > 0;
            int end = FIRST;
            for (int n : sizes[k]) {
                end += Math.max(16, (n + 15) / 16 * 16) + 16;
            }
            Check.due(about + ": the first place is free", host.register(10), firstHole ? FIRST : end);
            Check.due(about + ": no ERROR", host.count(5), 0);
        }
        // n counts, not what they take: 129 of 1 octet are all KEPT.
        Renewed many = new Asm().words(Asm.addi(6, 0, 129), Asm.addi(10, 0, 1), Asm.addi(17, 0, 2), Asm.CALL, Asm.addi(17, 0, 3), Asm.CALL,
                Asm.addi(6, 6, -1), Asm.branch(1, 6, 0, -24), Asm.BREAK).done();
        Check.due("129 octets that take 2064", many.count(8), 129);
    }

    private static void itselfFree() {
        Check.sentence("(it itself, if it alone has more)");
        for (int n : new int[] {2048, 2049, 16384}) {
            Renewed host = keep(new int[] {100, n}, new int[] {0, 1});
            Check.due(n + ": KEPT", host.count(8), n == 2048 ? 1 : 0);
            Check.due(n + ": the place of the older one", host.register(10), FIRST);
            Renewed twice = new Asm().call(2, n).call(3).call(3).word(Asm.BREAK).done();
            Check.error(n + ": given back again", twice, 0, n == 2048 ? 6 : 7, 28, FIRST, 0, 0, 0, 0);
        }
    }

    private static void keptErrors() {
        Check.sentence("ERROR 6: x10 of 3, 4 is that of a KEPT one");
        Renewed three = new Asm().word(Asm.jal(1, 4)).call(2, 24).call(3).call(3).after(9);
        Check.error("3", three, 0, 6, 32, FIRST, 4, 0, 0, 0);
        Check.due("one", three.count(5), 1);
        Renewed four = new Asm().call(2, 24).call(3).word(Asm.addi(11, 0, 8)).call(4).after(9);
        Check.error("4", four, 0, 6, 32, FIRST, 0, 0, 0, 0);
        Check.due("4 tells 0", four.register(10), 0);
        Renewed large = new Asm().call(2, 24).call(3).word(Asm.addi(11, 0, -1)).call(4).after(9);
        Check.error("4, though there can be no such BLOCK", large, 0, 6, 32, FIRST, 0, 0, 0, 0);
        Renewed inside = new Asm().call(2, 24).call(3).word(Asm.addi(10, 10, 16)).call(3).after(9);
        Check.error("inside of a KEPT one is 7", inside, 0, 7, 32, FIRST + 16, 0, 0, 0, 0);
        Renewed none = new Asm().call(2, 0).call(3).call(3).after(8);
        Check.error("of no octets", none, 0, 6, 28, FIRST, 0, 0, 0, 0);
        // LIVE again behind KEPT and free: no ERROR.
        Renewed again = new Asm().call(2, 3000).call(3).call(2, 8).call(3).after(12);
        Check.due("a new one in its place", again.count(5), 0);
    }

    private static void noBlockErrors() {
        Check.sentence("7: no BLOCK that is LIVE, nor KEPT (of both NUMBER: x10");
        int[] wrong = {FIRST + 1, FIRST - 1, FIRST + 16, FIRST - 16, FIRST + 39, FIRST + 40, FIRST + 64, 32768, 57328, 57343, 57344, 57360, 32752,
            1, 16, 65536, -1, -16, Integer.MIN_VALUE, Integer.MAX_VALUE, FIRST | Integer.MIN_VALUE, FIRST + 65536};
        for (int x10 : wrong) {
            Renewed three = new Asm().call(2, 40).call(3, x10).after(8);
            Check.error("3 of " + x10, three, 0, 7, 28, x10, 0, 0, 0, 0);
            Check.due("3 of " + x10 + ": LIVE", three.count(7), 1);
            Check.due("3 of " + x10 + ": one", three.count(5), 1);
            Renewed four = new Asm().call(2, 40).call(4, x10, 8).after(10);
            Check.error("4 of " + x10, four, 0, 7, 36, x10, 0, 0, 0, 0);
            Check.due("4 of " + x10 + ": LIVE", four.count(7), 1);
            Check.due("4 of " + x10 + ": octets", four.count(9), 40);
        }
        Renewed freed = new Asm().call(2, 2049).call(3).call(3).after(8);
        Check.error("free again", freed, 0, 7, 28, FIRST, 0, 0, 0, 0);
        Renewed older = new Asm().call(2, 1025).word(Asm.addi(18, 10, 0)).call(2, 1024).word(Asm.addi(19, 10, 0)).word(Asm.addi(10, 18, 0)).call(3)
                .word(Asm.addi(10, 19, 0)).call(3).word(Asm.addi(10, 18, 0)).call(3).word(Asm.addi(10, 19, 0)).call(3).word(Asm.BREAK).done();
        Check.due("the older one is free, the other one KEPT", older.count(5), 2);
        Check.error("free again", older, 0, 7, 72, FIRST, 0, 0, 0, 0);
        Check.error("KEPT", older, 1, 6, 84, FIRST + 1040 + 16, 0, 0, 0, 0);
    }

    private static void nothingIsDone() {
        Check.sentence("then nothing is done, 4 tells 0)");
        Asm[] programs = {new Asm().call(2, 40).call(3, FIRST + 8), new Asm().call(2, 40).call(4, FIRST + 8, 8), new Asm().call(2, 40).call(3).call(3),
            new Asm().call(2, 40).call(3).word(Asm.addi(11, 0, 8)).call(4)};
        int[] x10 = {FIRST + 8, 0, FIRST, 0};
        for (int k = 0; k < 4; k++) {
            int n = programs[k].here() / 4;
            Renewed host = programs[k].host();
            host.run(n - 1);
            int live = host.count(7);
            int kept = host.count(8);
            int first = host.memory(FIRST);
            host.run(1);
            Check.due(k + ": one ERROR", host.count(5), 1);
            Check.due(k + ": x10", host.register(10), x10[k]);
            Check.due(k + ": x10 is GIVEN", host.unknown(10), 0);
            Check.due(k + ": LIVE", host.count(7), live);
            Check.due(k + ": KEPT", host.count(8), kept);
            Check.due(k + ": MEMORY", host.memory(FIRST), first);
            Check.due(k + ": it goes on", host.count(0), 0);
            Check.due(k + ": PC", host.count(2), 4 * n);
        }
    }
}
