/** Term 1: which words are no INSTRUCTIONS, and the TRAPS, sentence by sentence. */
public final class TrapEdgesTest {
    private static final int[] OPS_WITH_PARTS = {0x03, 0x13, 0x23, 0x33, 0x63, 0x67, 0x73};

    public static void main(String[] args) {
        others();
        addressesWrap();
        beyond();
        noInstructionThere();
        endsTheRun();
        doesNothing();
        errorOneAlone();
        Check.finish();
    }

    /** Which TRAP a word at 0 is to be if its D, A and B are 0; -1: none. */
    private static int trap(int op, int f, int g) {
        boolean below = g >= 64;
        switch (op) {
            case 0x37:
            case 0x17:
            case 0x6F:
            case 0x0F: return -1;
            case 0x67: return f == 0 ? -1 : 1;
            case 0x63: return f == 2 || f == 3 ? 1 : -1;
            case 0x03: return f == 3 || f >= 6 ? 1 : below ? 2 : -1;
            case 0x23: return f >= 3 ? 1 : below ? 2 : -1;
            case 0x13: return f == 1 && g != 0 || f == 5 && g != 0 && g != 0x20 ? 1 : -1;
            case 0x33: return g == 0 || g == 1 || g == 0x20 && (f == 0 || f == 5) ? -1 : 1;
            case 0x73: return f == 0 && g == 0 ? -1 : 1;
            default: return 1;
        }
    }

    private static void others() {
        Check.sentence("Others: TRAP 1, at that PC");
        for (int op = 0; op < 128; op++) {
            boolean parts = false;
            for (int one : OPS_WITH_PARTS) {
                parts |= one == op;
            }
            for (int f = 0; f < 8; f++) {
                for (int g = 0; g < 128; g += parts || g == 0 ? 1 : g == 1 ? 31 : 95) {
                    word(op, f, g);
                }
            }
        }
    }

    private static void word(int op, int f, int g) {
        int want = trap(op, f, g);
        String about = "OP " + op + " F " + f + " G " + g;
        Renewed host = new Asm().word(g << 25 | f << 12 | op).host();
        Check.due(about + ": run(1)", host.run(1), want >= 0 ? 2 : 0);
        Check.due(about + ": which TRAP", host.count(1), want >= 0 ? want : 0);
        Check.due(about + ": done", host.count(3), want >= 0 ? 0 : 1);
        if (want >= 0) {
            Check.due(about + ": PC", host.count(2), 0);
            Check.due(about + ": ERRORS", host.count(5), 0);
        }
    }

    private static void addressesWrap() {
        Check.sentence("Addresses wrap at 2 ** 32");
        Renewed read = new Asm().words(Asm.addi(5, 0, -4), Asm.load(2, 6, 5, 8), Asm.load(4, 7, 5, 4)).host();
        Check.due("read", read.run(3), 0);
        Check.due("at 4", read.register(6), Asm.load(2, 6, 5, 8));
        Check.due("at 0", read.register(7), 0x93);
        Renewed written = new Asm().words(Asm.addi(5, 0, -1), Asm.addi(6, 0, 5), Asm.store(2, 6, 5, 1025)).host();
        Check.due("written", written.run(3), 0);
        Check.due("at 1024", written.memory(1024), 65536 + 5);
        Renewed jump = new Asm().words(Asm.addi(5, 0, -8), Asm.jalr(0, 5, 24)).host();
        jump.run(2);
        Check.due("PC", jump.count(2), 16);
        Renewed down = new Asm().words(Asm.load(0, 6, 0, -1)).host();
        Check.due("below 0", down.run(1), 2);
        Check.due("is beyond", down.count(1), 2);
        Renewed top = new Asm().li(5, Integer.MAX_VALUE).word(Asm.load(0, 6, 5, 1)).done();
        Check.due("2 ** 31 is beyond", top.count(1), 2);
        Renewed back = new Asm().word(Asm.jal(0, -4)).host();
        back.run(1);
        Check.due("PC below 0", back.count(2), -4);
    }

    private static void beyond() {
        Check.sentence("what lies beyond MEMORY (one octet of it): TRAP 2 (nothing is read or written)");
        // The address, and the least F (of 0, 1, 2) that is a TRAP there.
        int[][] cases = {{65531, 3}, {65532, 3}, {65533, 2}, {65534, 2}, {65535, 1}, {65536, 0}, {65537, 0}, {-1, 0}, {-2, 0}, {-3, 0}, {-4, 0},
            {Integer.MIN_VALUE, 0}, {Integer.MAX_VALUE, 0}, {131072, 0}, {0, 3}};
        for (int[] c : cases) {
            for (int f = 0; f <= 2; f++) {
                reached(c[0], f, f >= c[1]);
            }
        }
    }

    private static void reached(int at, int f, boolean trap) {
        String about = (1 << f) + " octets at " + at;
        for (int unsigned = 0; unsigned <= (f < 2 ? 4 : 0); unsigned += 4) {
            Renewed read = new Asm().li(5, at).words(Asm.addi(6, 0, 9), Asm.load(f + unsigned, 6, 5, 0)).host();
            Check.due("read " + about, read.run(4), trap ? 2 : 0);
            Check.due("read " + about + ": which", read.count(1), trap ? 2 : 0);
            Check.due("read " + about + ": PC", read.count(2), trap ? 12 : 16);
            Check.due("read " + about + ": ERRORS", read.count(5), 0);
            if (trap) {
                Check.due("read " + about + ": D as it was", read.register(6), 9);
            }
        }
        Renewed written = new Asm().li(5, at).words(Asm.addi(6, 0, -1), Asm.store(f, 6, 5, 0)).host();
        Check.due("write " + about, written.run(4), trap ? 2 : 0);
        Check.due("write " + about + ": which", written.count(1), trap ? 2 : 0);
        Check.due("write " + about + ": ERRORS", written.count(5), 0);
        if (trap) {
            for (int i = 0; i < 4; i++) {
                Check.due("write " + about + ": the end as it was", written.memory(65535 - i), 65536 + 65280);
                Check.due("write " + about + ": the start as it was", written.memory(i), 65536 + new Asm().li(5, at).octet(i));
            }
        }
    }

    private static void noInstructionThere() {
        Check.sentence("reading an INSTRUCTION at a PC that is no multiple of 4, or beyond: TRAP 0, without ERRORS");
        int[] there = {1026, 1025 * 2, 2, 20002, 32770, 57346, 65534, 65536, 65538, 65540, -4, -2, Integer.MIN_VALUE, Integer.MAX_VALUE - 3, 131072};
        for (int at : there) {
            Renewed host = new Asm().words(Asm.jal(1, 4)).li(5, at).word(Asm.jalr(1, 5, 0)).host();
            Check.due("the jump to " + at, host.run(4), 0);
            Check.due("PC is there", host.count(2), at);
            Check.due("then", host.run(1), 2);
            Check.due("TRAP 0", host.count(1), 0);
            Check.due("PC stays", host.count(2), at);
            Check.due("done", host.count(3), 4);
            Check.due("without ERRORS", host.count(5), 0);
            Check.due("RETURNS as before", host.count(10), 2);
            Check.due("x1 as before", host.register(1), 16);
        }
        Renewed last = new Asm().li(5, 65532).words(Asm.addi(6, 0, 0x0F), Asm.store(2, 6, 5, 0), Asm.jalr(0, 5, 0)).host();
        Check.due("the last four octets", last.run(6), 0);
        Check.due("PC behind them", last.count(2), 65536);
        Check.due("which are OPEN", last.count(5), 0);
        Check.due("then", last.run(1), 2);
        Check.due("TRAP 0", last.count(1), 0);
        Renewed branch = new Asm().words(Asm.branch(0, 0, 0, 6)).host();
        Check.due("a branch there is done", branch.run(1), 0);
        Check.due("then", branch.run(1), 2);
        Check.due("PC", branch.count(2), 6);
        Check.due("not taken", new Asm().words(Asm.branch(1, 0, 0, 6)).after(1).count(2), 4);
    }

    private static void endsTheRun() {
        Check.sentence("A TRAP ends the run, PC is where it was");
        Asm[] programs = {new Asm().words(0x0F, Asm.jal(0, 6)), new Asm().words(0x0F, 0x0F, 0), new Asm().words(0x0F, 0x0F, Asm.load(0, 5, 0, -1)),
            new Asm().words(0x0F, 0x0F, Asm.BREAK)};
        int[] pc = {10, 8, 8, 8};
        for (int which = 0; which < 4; which++) {
            Renewed host = programs[which].host();
            Check.due("TRAP " + which, host.run(100000), 2);
            Check.due("which", host.count(1), which);
            Check.due("PC", host.count(2), pc[which]);
            Check.due("done", host.count(3), 2);
            Check.due("nothing more", host.run(100), 2);
            Check.due("PC still", host.count(2), pc[which]);
            Check.due("done still", host.count(3), 2);
        }
    }

    private static void doesNothing() {
        Check.sentence("the INSTRUCTION does nothing, but for ERRORS");
        // At 20000, not OPEN, with an address that is not GIVEN and beyond: ERRORS 1 and 3, and nothing else.
        Renewed host = new Asm().li(5, 20000).li(6, Asm.load(2, 1, 8, -4)).word(Asm.store(2, 6, 5, 0)).word(Asm.jalr(1, 5, 0)).host();
        Check.due("up to it", host.run(6), 0);
        Check.due("x1", host.register(1), 24);
        Check.due("it is a TRAP", host.run(1), 2);
        Check.due("2", host.count(1), 2);
        Check.due("PC", host.count(2), 20000);
        Check.due("done", host.count(3), 6);
        Check.error("of the store", host, 0, 4, 16, 20000, 0, 0, 0, 0);
        Check.error("1", host, 1, 1, 20000, 20000, 24, 0, 0, 0);
        Check.error("3", host, 2, 3, 20000, -4, 24, 0, 0, 0);
        Check.due("no more", host.count(5), 3);
        Check.due("D as it was", host.register(1), 24);
        Check.due("RETURNS as they were", host.count(10), 1);
        host.run(5);
        Check.due("not told again", host.count(5), 3);
        Renewed store = new Asm().word(Asm.store(1, 0, 8, -1)).done();
        Check.error("of a store, too", store, 0, 3, 0, -1, 0, 0, 0, 0);
        Check.due("TRAP 2", store.count(1), 2);
    }

    private static void errorOneAlone() {
        Check.sentence("of TRAP 1 and 3 ERROR 1 alone");
        // Nothing is GIVEN that they would use, and what they would reach is not OPEN.
        int[] words = {Asm.i(0x67, 1, 1, 8, 0), Asm.i(0x67, 1, 0, 1, 0), Asm.branch(2, 8, 9, 8), Asm.branch(3, 8, 9, 8), Asm.load(3, 8, 9, 0),
            Asm.load(6, 8, 9, 0), Asm.load(7, 8, 9, -4), Asm.store(3, 8, 9, 0), Asm.store(7, 8, 9, -4), Asm.load(3, 8, 5, 0), Asm.store(3, 8, 5, 0),
            Asm.r(2, 0, 8, 9, 9), 0x200073, 0, -1, Asm.BREAK};
        for (int w : words) {
            int which = w == Asm.BREAK ? 3 : 1;
            Renewed open = new Asm().li(5, 20000).words(Asm.addi(1, 0, 64), w).done();
            Check.due("TRAP of " + Integer.toHexString(w), open.count(1), which);
            Check.due("no ERROR", open.count(5), 0);
            Check.due("no RETURN", open.count(10), 0);
            Check.due("x1", open.register(1), 64);
            Renewed shut = new Asm().li(5, 20000).li(6, w).words(Asm.store(2, 6, 5, 0), Asm.jalr(0, 5, 0)).done();
            Check.due("TRAP of " + Integer.toHexString(w) + ", not OPEN", shut.count(1), which);
            Check.due("ERROR 1", shut.count(5), 2);
            Check.error("ERROR 1", shut, 1, 1, 20000, 20000, 0, 0, 0, 0);
        }
    }
}
