/** Promise 5: run, with the TRAPS of term 1 and the ends. */
public final class RunTest {
    public static void main(String[] args) {
        counts();
        wrongInputs();
        noInstruction();
        noInstructionThere();
        beyond();
        selfWritten();
        Check.finish();
    }

    private static void counts() {
        Renewed host = new Asm().word(Asm.addi(5, 5, 1)).word(Asm.jal(0, -4)).host();
        Check.due("run(0)", host.run(0), 0);
        Check.due("nothing done", host.count(3), 0);
        Check.due("run(1)", host.run(1), 0);
        Check.due("PC", host.count(2), 4);
        Check.due("run(100000)", host.run(100000), 0);
        Check.due("100001 done", host.count(3), 100001);
        Check.due("50001 rounds", host.register(5), 50001);
        Renewed exit = new Asm().call(1, -7).host();
        Check.due("not yet", exit.run(3), 0);
        Check.due("EXIT", exit.run(1), 1);
        Check.due("still", exit.run(5), 1);
        Check.due("run(0) behind it", exit.run(0), 1);
        Check.due("done, the EXIT too", exit.count(3), 4);
        Check.due("PC stays", exit.count(2), 12);
        Check.due("x10", exit.count(1), -7);
        Check.illegal("100001 behind the EXIT", () -> exit.run(100001));
        exit.begin();
        Check.due("till begin()", exit.run(3), 0);
    }

    private static void wrongInputs() {
        Renewed host = new Asm().word(Asm.addi(5, 5, 1)).word(Asm.jal(0, -4)).host();
        for (int n : new int[] {-1, 100001, Integer.MIN_VALUE, Integer.MAX_VALUE}) {
            Check.illegal("run(" + n + ")", () -> host.run(n));
        }
        Check.due("nothing was done", host.count(3), 0);
    }

    private static void trapped(String about, Renewed host, int which, int pc, int done) {
        Check.due(about + ": run", host.run(100000), 2);
        Check.due(about + ": count(0)", host.count(0), 2);
        Check.due(about + ": which TRAP", host.count(1), which);
        Check.due(about + ": PC", host.count(2), pc);
        Check.due(about + ": done", host.count(3), done);
        Check.due(about + ": again", host.run(1), 2);
        Check.due(about + ": still done", host.count(3), done);
    }

    private static void noInstruction() {
        int[] bad = {
            0, -1, 0x7F, 0x01, 0x13 ^ 3, 0x2F, 0x53, 0x07,
            Asm.i(0x67, 1, 5, 6, 0), Asm.i(0x67, 7, 1, 1, 0),
            Asm.branch(2, 5, 6, 8), Asm.branch(3, 5, 6, 8),
            Asm.load(3, 5, 6, 0), Asm.load(6, 5, 6, 0), Asm.load(7, 5, 6, 0),
            Asm.store(3, 5, 6, 0), Asm.store(4, 5, 6, 0), Asm.store(7, 5, 6, 0),
            Asm.i(0x13, 1, 5, 0, 0x21), Asm.i(0x13, 1, 5, 0, 0x401), Asm.i(0x13, 5, 5, 0, 0x21),
            Asm.i(0x13, 5, 5, 0, 0xC01), Asm.i(0x13, 5, 5, 0, -2048),
            Asm.r(0x20, 1, 5, 0, 0), Asm.r(0x20, 2, 5, 0, 0), Asm.r(0x20, 7, 5, 0, 0), Asm.r(2, 0, 5, 0, 0),
            Asm.r(0x21, 0, 5, 0, 0), Asm.r(0x40, 5, 5, 0, 0), Asm.r(0x7F, 0, 5, 0, 0),
            0x200073, 0x1073, 0xF3, 0x80000073, 0x10200073, 0x8073, 0x100173,
        };
        for (int w : bad) {
            Renewed host = new Asm().word(Asm.addi(0, 0, 0)).word(w).host();
            trapped("word " + Integer.toHexString(w), host, 1, 4, 1);
            Check.due("of TRAP 1 no ERROR but 1", host.count(5), 0);
            Check.due("D as it was", host.unknown(5), -1);
            Check.due("no RETURN", host.count(10), 0);
        }
        Renewed breaks = new Asm().word(Asm.BREAK).host();
        trapped("0x100073", breaks, 3, 0, 0);
        Check.due("no ERROR", breaks.count(5), 0);
        Renewed nothing = new Asm().words(0x0F, 0xFFFFFF8F, 0x100F, Asm.BREAK).host();
        trapped("0x0F does nothing", nothing, 3, 12, 3);
        Check.due("no D", nothing.unknown(31), -1);
    }

    private static void noInstructionThere() {
        trapped("PC by halves", new Asm().word(Asm.jal(0, 6)).host(), 0, 6, 1);
        trapped("PC behind MEMORY", new Asm().li(5, 65536).word(Asm.jalr(0, 5, 0)).host(), 0, 65536, 3);
        trapped("PC before MEMORY", new Asm().word(Asm.jal(0, -4)).host(), 0, -4, 1);
        trapped("odd", new Asm().word(Asm.jalr(0, 0, 3)).host(), 0, 2, 1);
        Renewed last = new Asm().li(5, 65532).li(6, 0x0F).word(Asm.store(2, 6, 5, 0)).word(Asm.jalr(0, 5, 0)).host();
        trapped("the last word is one", last, 0, 65536, 7);
        Renewed shut = new Asm().word(Asm.addi(0, 0, 0)).word(Asm.jalr(0, 0, -2)).host();
        trapped("beyond and by halves", shut, 0, -2, 2);
        Check.due("without ERRORS", shut.count(5), 0);
        Renewed notYet = new Asm().word(Asm.jal(0, 6)).host();
        Check.due("the TRAP comes with the next one", notYet.run(1), 0);
        Check.due("PC is there", notYet.count(2), 6);
        Check.due("run(0) does none", notYet.run(0), 0);
    }

    private static void beyond() {
        int[][] cases = {{65536, 0}, {65535, 1}, {65535, 2}, {65533, 2}, {65534, 2}, {-1, 0}, {-4, 2}, {-2, 1}, {-1, 1}, {0x7FFFFFFF, 0}};
        for (int[] c : cases) {
            Renewed load = new Asm().li(5, c[0]).word(Asm.load(c[1], 6, 5, 0)).host();
            trapped("read " + c[0] + " by " + c[1], load, 2, 8, 2);
            Check.due("D as it was", load.unknown(6), -1);
            Check.due("no ERROR 4", load.count(5), 0);
            Renewed store = new Asm().li(5, c[0]).word(Asm.store(c[1], 0, 5, 0)).host();
            trapped("write " + c[0] + " by " + c[1], store, 2, 8, 2);
            Check.due("the last octet as it was", store.memory(65535), 65536 + 65280);
            Check.due("the first octet as it was", store.memory(0), 65536 + 0xB7);
        }
        Renewed edge = new Asm().word(Asm.store(2, 0, 2, -4)).word(Asm.load(5, 6, 2, -2)).word(Asm.BREAK).host();
        trapped("the last octets", edge, 3, 8, 2);
        Renewed wraps = new Asm().word(Asm.addi(5, 0, -4)).word(Asm.load(2, 6, 5, 8)).word(Asm.BREAK).host();
        trapped("addresses wrap", wraps, 3, 8, 2);
        Check.due("read at 4", wraps.register(6), Asm.load(2, 6, 5, 8));
        Renewed ungiven = new Asm().word(Asm.load(2, 6, 5, -4)).host();
        trapped("TRAP 2 with ERROR 3", ungiven, 2, 0, 0);
        Check.due("ERROR 3 alone", ungiven.count(5), 1);
        Check.error("TRAP 2", ungiven, 0, 3, 0, -4, 0, 0, 0, 0);
    }

    private static void selfWritten() {
        Renewed host = new Asm().li(5, Asm.addi(6, 0, 77)).word(Asm.store(2, 5, 0, 12)).word(0).word(Asm.BREAK).host();
        trapped("an INSTRUCTION as it is then", host, 3, 16, 4);
        Check.due("x6", host.register(6), 77);
    }
}
