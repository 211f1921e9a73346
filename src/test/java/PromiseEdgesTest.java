/** Promises 1 to 11, sentence by sentence, with the edges that each names, and what is said of all calls. */
public final class PromiseEdgesTest {
    private static final int FIRST = 32784;
    private static final int MIN = Integer.MIN_VALUE;
    private static final int MAX = Integer.MAX_VALUE;
    private static final int OPEN_UNGIVEN = 65536 + 255 * 256;

    public static void main(String[] args) {
        newObject();
        images();
        imagesRefused();
        inputs();
        inputsRefused();
        tooManyInputs();
        begins();
        beginWithoutBlocks();
        beginReadsAnew();
        runs();
        runsBehindTheEnd();
        runsRefused();
        registers();
        memories();
        errors();
        errorsRefused();
        outputs();
        counts();
        countsOfEnds();
        countsRefused();
        namedFirst();
        changesNothing();
        objectsApart();
        lastCalls();
        Check.finish();
    }

    /** As begin() leaves it, but for the octets of the IMAGE. */
    private static void fresh(String about, Renewed host) {
        for (int what = 0; what <= 10; what++) {
            Check.due(about + ": count(" + what + ")", host.count(what), 0);
        }
        for (int k = 0; k < 32; k++) {
            Check.due(about + ": x" + k, host.register(k), k == 2 ? 65536 : 0);
            Check.due(about + ": x" + k + ", not GIVEN", host.unknown(k), k == 0 || k == 2 ? 0 : -1);
        }
        for (int at = 16384; at < 65536; at += at < 33000 || at > 57000 ? 1 : 97) {
            int want = at < 57344 ? 0 : OPEN_UNGIVEN;
            if (host.memory(at) != want) {
                Check.due(about + ": memory(" + at + ")", host.memory(at), want);
            }
        }
        Check.outOfBounds(about + ": no ERROR", () -> host.error(0, 0));
        Check.outOfBounds(about + ": nothing put out", () -> host.output(0));
        Check.due(about + ": run(0)", host.run(0), 0);
    }

    private static void newObject() {
        Check.sentence("No IMAGE; as begin() leaves it");
        Renewed host = new Renewed();
        fresh("new", host);
        for (int at = 0; at < 16384; at += 7) {
            Check.due("memory(" + at + ")", host.memory(at), 65536);
        }
        Check.due("nothing put in", host.input(0L, 1), 1);
        Check.due("0 is no INSTRUCTION", host.run(1), 2);
    }

    private static void images() {
        Check.sentence("Eight octets of the IMAGE from at on, the lowest of w first: they come with begin()");
        for (int at : new int[] {0, 8, 16, 8192, 16368, 16376}) {
            Renewed host = new Renewed();
            host.image(at, 0x8877665544332211L);
            for (int i = 0; i < 8; i++) {
                Check.due("not before begin()", host.memory(at + i), 65536);
            }
            host.begin();
            for (int i = 0; i < 8; i++) {
                Check.due("octet " + i + " at " + at, host.memory(at + i), 65536 + 0x11 * (i + 1));
            }
            Check.due("before it", at == 0 ? 65536 : host.memory(at - 1), 65536);
            Check.due("behind it", host.memory(at + 8), at == 16376 ? 0 : 65536);
        }
        Renewed host = new Renewed();
        host.image(8, -1L);
        host.image(8, 0x0102030405060780L);
        host.begin();
        Check.due("the later one", host.memory(8), 65536 + 0x80);
        Check.due("the later one, its last octet", host.memory(15), 65536 + 1);
        host.begin();
        Check.due("once more with the next begin()", host.memory(8), 65536 + 0x80);
        host.image(8, MIN);
        Check.due("not before begin()", host.memory(8), 65536 + 0x80);
        host.begin();
        Check.due("the sign goes up", host.memory(15), 65536 + 255);
        Check.due("bit 31", host.memory(11), 65536 + 0x80);
        Renewed running = new Asm().words(0x0F, Asm.jal(0, -4)).after(1);
        running.image(0, 0L);
        Check.due("while it runs nothing changes", running.run(100), 0);
        running.begin();
        Check.due("but with begin()", running.run(100), 2);
    }

    private static void imagesRefused() {
        Check.sentence("IllegalArgumentException: at is no multiple of 8, 0 to 16376");
        Renewed host = new Renewed();
        for (int at : new int[] {-1, -8, -16, -16376, 1, 2, 4, 7, 9, 12, 15, 16372, 16375, 16377, 16380, 16383, 16384, 16392, 57344, 65528, 65536,
            MIN, MIN + 8, MAX, MAX - 7}) {
            Check.illegal("image(" + at + ")", () -> host.image(at, -1L));
        }
        host.begin();
        for (int at = 0; at < 32; at++) {
            Check.due("nothing came: " + at, host.memory(at), 65536);
            Check.due("nothing came: " + (16352 + at), host.memory(16352 + at), 65536);
        }
        Check.due("nor behind the IMAGE", host.memory(16384), 0);
        Check.due("nor on the STACK", host.memory(57344), OPEN_UNGIVEN);
        host.image(0, 1L);
        host.image(16376, 1L);
        host.begin();
        Check.due("0 is right", host.memory(0), 65537);
        Check.due("16376 is right", host.memory(16376), 65537);
    }

    /** It reads an octet by each two INSTRUCTIONS, the first by two more. */
    private static Asm reader() {
        return new Asm().words(Asm.addi(17, 0, 6), Asm.CALL, Asm.jal(0, -4));
    }

    private static void inputs() {
        Check.sentence("Up to eight octets are put in, n of w, the lowest first, behind those before: how many there are");
        for (int n = 1; n <= 8; n++) {
            Renewed host = reader().host();
            Check.due("input of " + n, host.input(0x8887868584838281L, n), n);
            Check.due("behind those before", host.input(0x7FL, 1), n + 1);
            host.run(2);
            for (int i = 0; i < n; i++) {
                Check.due("octet " + i + " of " + n, host.register(10), 0x81 + i);
                host.run(2);
            }
            Check.due("the next one", host.register(10), 0x7F);
            host.run(2);
            Check.due("no more", host.register(10), -1);
        }
        Renewed read = reader().host();
        read.input(5L, 2);
        read.run(100);
        Check.due("those that were read count, too", read.input(6L, 3), 5);
        read.begin();
        Check.due("also behind begin()", read.input(7L, 1), 6);
    }

    private static void inputsRefused() {
        Check.sentence("IllegalArgumentException: n is not 1..8");
        Renewed host = new Renewed();
        for (int n : new int[] {0, -1, 9, 10, 16, 1025, MIN, MAX, MIN + 1}) {
            Check.illegal("input(.., " + n + ")", () -> host.input(-1L, n));
        }
        Check.due("none was put in", host.input(0L, 1), 1);
        Check.due("8 is right", host.input(0L, 8), 9);
    }

    private static void tooManyInputs() {
        Check.sentence("IndexOutOfBoundsException: there would be more than 1024 (then none is put in)");
        Renewed host = reader().host();
        for (int i = 1; i <= 127; i++) {
            Check.due("input", host.input(-1L, 8), 8 * i);
        }
        Check.due("1017", host.input(0xFFL, 1), 1017);
        Check.outOfBounds("8 more would be 1025", () -> host.input(0x1111111111111111L, 8));
        Check.due("7 more are 1024", host.input(0x77665544332211L, 7), 1024);
        for (int n = 1; n <= 8; n++) {
            int more = n;
            Check.outOfBounds(more + " more", () -> host.input(-1L, more));
        }
        host.run(2 + 2 * 1016);
        Check.due("the last before", host.register(10), 0xFF);
        for (int i = 1; i <= 7; i++) {
            host.run(2);
            Check.due("of those put in", host.register(10), 0x11 * i);
        }
        host.run(2);
        Check.due("none of those refused", host.register(10), -1);
        host.begin();
        Check.outOfBounds("begin() makes no room", () -> host.input(0L, 1));
    }

    private static void begins() {
        Check.sentence("All anew: MEMORY is the IMAGE, all else 0, PC 0, x2 65536, other registers 0, no BLOCKS, no RETURNS, no ERRORS,"
                + " nothing put out");
        // It leaves something behind everywhere: registers, MEMORY of all kinds, BLOCKS, RETURNS, ERRORS, what is put out.
        Asm asm = new Asm();
        for (int k = 1; k < 32; k++) {
            asm.li(k, 16500 + 16 * k);
        }
        asm.words(Asm.store(2, 31, 20, 0), Asm.store(2, 31, 0, 2000)).li(2, 65536).word(Asm.store(2, 31, 2, -4)).call(2, 30).call(2, 30).call(3)
                .call(5, 65).words(Asm.jal(1, 4), Asm.load(0, 5, 20, 0));
        int size = asm.here() / 4;
        Renewed trapped = asm.word(Asm.BREAK).done();
        Check.due("TRAP", trapped.count(0), 2);
        Check.due("ERRORS", trapped.count(5), 2);
        trapped.begin();
        fresh("behind a TRAP", trapped);
        Check.due("MEMORY of the IMAGE", trapped.memory(2000), 65536);
        Renewed going = asm.host();
        going.run(size);
        Check.due("it goes on", going.count(0), 0);
        Check.due("LIVE", going.count(7), 1);
        going.begin();
        fresh("in the midst", going);
        Check.due("MEMORY is the IMAGE", going.memory(0), 65536 + asm.octet(0));
        Renewed ended = asm.at(4 * size).call(1, 7).done();
        Check.due("EXIT", ended.count(0), 1);
        ended.begin();
        fresh("behind an EXIT", ended);
        ended.begin();
        fresh("begun twice", ended);
        Check.due("the same again", ended.run(100000), 1);
        Check.due("ERRORS are told anew", ended.count(4), 3);
        Check.due("x10", ended.count(1), 7);
    }

    private static void beginWithoutBlocks() {
        Check.sentence("no BLOCKS, no RETURNS, no ERRORS");
        // A KEPT BLOCK of 2000 octets and a LIVE one behind it, four RETURNS and an ERROR.
        Asm before = new Asm().call(2, 2000).word(Asm.addi(18, 10, 0)).call(2, 8).word(Asm.addi(10, 18, 0)).call(3)
                .words(Asm.jal(1, 4), Asm.jal(1, 4), Asm.jal(1, 4), Asm.jal(1, 4), Asm.branch(0, 31, 0, 4), Asm.BREAK);
        Renewed host = before.done();
        Check.due("LIVE", host.count(7), 1);
        Check.due("KEPT", host.count(8), 1);
        new Asm().call(3, FIRST).call(3, FIRST + 2016).word(Asm.BREAK).into(host).run(100);
        Check.error("no KEPT one there", host, 0, 7, 12, FIRST, 0, 0, 0, 0);
        Check.error("no LIVE one there", host, 1, 7, 28, FIRST + 2016, 0, 0, 0, 0);
        before.into(host).run(100);
        new Asm().call(2, 100).word(Asm.addi(18, 10, 0)).call(3).word(Asm.BREAK).into(host).run(100);
        Check.due("its place is free", host.register(18), FIRST);
        Check.due("what was KEPT before does not count", host.count(8), 1);
        before.into(host).run(100);
        new Asm().words(0x0F, 0x0F, Asm.branch(0, 31, 0, 4), Asm.branch(0, 31, 0, 4), Asm.BREAK).into(host).run(100);
        Check.error("without the RETURNS of before", host, 0, 2, 8, 0, 0, 0, 0, 0);
        Check.due("told", host.count(4), 2);
        int pair = before.here() - 8;
        before.into(host).run(100);
        Check.error("a pair that was told before is told again", host, 0, 2, pair, 0, pair, pair - 4, pair - 8, pair - 12);
    }

    private static void beginReadsAnew() {
        Check.sentence("what was put in is read from the first octet on");
        Renewed host = reader().host();
        host.input(0x333231L, 3);
        for (int round = 0; round < 3; round++) {
            host.run(2);
            Check.due("the first", host.register(10), 0x31);
            host.run(2 * round);
            Check.due("another", host.register(10), 0x31 + round);
            host.begin();
        }
        host.run(100);
        Check.due("all read", host.register(10), -1);
        host.begin();
        host.run(2);
        Check.due("the first again", host.register(10), 0x31);
    }

    private static void runs() {
        Check.sentence("At most n more INSTRUCTIONS: 0 it goes on, 1 EXIT, 2 a TRAP");
        Renewed loop = new Asm().words(Asm.addi(5, 0, 0), Asm.addi(5, 5, 1), Asm.jal(0, -4)).host();
        int done = 0;
        for (int n : new int[] {0, 1, 0, 2, 3, 10, 1000, 99999, 100000}) {
            Check.due("run(" + n + ")", loop.run(n), 0);
            done += n;
            Check.due("done", loop.count(3), done);
            Check.due("rounds", loop.register(5), done / 2);
        }
        Renewed exit = new Asm().call(1, 3).host();
        Check.due("up to it", exit.run(3), 0);
        Check.due("run(0)", exit.run(0), 0);
        Check.due("EXIT", exit.run(1), 1);
        Check.due("EXIT at once", new Asm().call(1, 3).host().run(4), 1);
        Check.due("EXIT with more", new Asm().call(1, 3).host().run(100000), 1);
        Renewed trap = new Asm().words(0x0F, Asm.BREAK).host();
        Check.due("up to it", trap.run(1), 0);
        Check.due("run(0)", trap.run(0), 0);
        Check.due("a TRAP", trap.run(1), 2);
        Check.due("a TRAP at once", new Asm().words(0x0F, Asm.BREAK).host().run(2), 2);
    }

    private static void runsBehindTheEnd() {
        Check.sentence("(behind one of both nothing more is done, till begin())");
        Asm[] programs = {new Asm().call(1, 3).word(Asm.addi(5, 0, 1)), new Asm().words(0x0F, 0x0F, 0x0F, Asm.BREAK, Asm.addi(5, 0, 1)),
            new Asm().words(0x0F, 0x0F, 0x0F, Asm.load(0, 5, 0, -1), Asm.addi(5, 0, 1)), new Asm().words(0x0F, 0x0F, 0x0F, 0, Asm.addi(5, 0, 1))};
        for (int k = 0; k < programs.length; k++) {
            Renewed host = programs[k].host();
            int want = k == 0 ? 1 : 2;
            Check.due("the end", host.run(100), want);
            int result = host.count(1);
            for (int n : new int[] {0, 1, 100000}) {
                Check.due("run(" + n + ")", host.run(n), want);
                Check.due("PC", host.count(2), 12);
                Check.due("done", host.count(3), k == 0 ? 4 : 3);
                Check.due("how it ended", host.count(0), want);
                Check.due("with what", host.count(1), result);
                Check.due("nothing done", host.unknown(5), -1);
            }
            host.begin();
            Check.due("till begin()", host.run(3), 0);
            Check.due("done", host.count(3), 3);
            Check.due("the same end", host.run(1), want);
        }
    }

    private static void runsRefused() {
        Check.sentence("IllegalArgumentException: n is not 0..100000");
        Renewed host = new Asm().words(Asm.addi(5, 0, 1), Asm.jal(0, 0)).host();
        for (int n : new int[] {-1, 100001, 200000, MIN, MAX, -100000}) {
            Check.illegal("run(" + n + ")", () -> host.run(n));
            Check.due("nothing done", host.count(3), 0);
        }
        Check.due("100000 is right", host.run(100000), 0);
        Check.due("done", host.count(3), 100000);
        Renewed ended = new Asm().word(Asm.BREAK).done();
        Check.illegal("behind the end, too", () -> ended.run(-1));
        Check.illegal("behind the end, too", () -> ended.run(100001));
    }

    private static void registers() {
        Check.sentence("Register k. IndexOutOfBoundsException: there is none");
        Renewed host = new Asm().li(31, 0x80000031).mixed(30, -1, 0x40000001).after(8);
        // x31 is GIVEN now, so that nothing of x30 is not.
        Check.due("register(31)", host.register(31), 0x80000031);
        Check.due("register(0)", host.register(0), 0);
        Check.due("register(2)", host.register(2), 65536);
        for (int k : new int[] {-1, -2, 32, 33, 64, MIN, MAX}) {
            Check.outOfBounds("register(" + k + ")", () -> host.register(k));
        }
        Check.sentence("Its bits that are not GIVEN");
        Renewed mixed = new Asm().mixed(5, -1, 0x80000001).mixed(6, 0, 0x7FFFFFFE).after(12);
        Check.due("unknown(5)", mixed.unknown(5), 0x80000001);
        Check.due("unknown(6)", mixed.unknown(6), 0x7FFFFFFE);
        Check.due("unknown(31)", mixed.unknown(31), -1);
        Check.due("unknown(0)", mixed.unknown(0), 0);
        for (int k : new int[] {-1, -2, 32, 33, 64, MIN, MAX}) {
            Check.outOfBounds("unknown(" + k + ")", () -> mixed.unknown(k));
        }
    }

    private static void memories() {
        Check.sentence("Octet at of MEMORY, with its bits that are not GIVEN times 256, and 65536 if it is OPEN");
        Renewed host = new Asm().mixed(5, 0xFF, 0x81).li(6, 20000).words(Asm.store(0, 5, 2, -1), Asm.store(0, 5, 6, 0), Asm.store(0, 5, 0, 2000),
                Asm.store(0, 0, 2, -2)).after(12);
        Check.due("of the STACK", host.memory(65535), 65536 + 0x81 * 256 + 0xFF);
        Check.due("not OPEN", host.memory(20000), 0x81 * 256 + 0xFF);
        Check.due("of the IMAGE", host.memory(2000), 65536 + 0x81 * 256 + 0xFF);
        Check.due("all GIVEN", host.memory(65534), 65536);
        Check.due("none GIVEN", host.memory(65533), OPEN_UNGIVEN);
        Check.due("nothing at all", host.memory(20001), 0);
        Check.sentence("IndexOutOfBoundsException: there is none");
        Check.due("memory(0)", host.memory(0), 65536 + 0x37);
        Check.due("memory(65535)", host.memory(65535), 65536 + 0x81 * 256 + 0xFF);
        for (int at : new int[] {-1, -2, 65536, 65537, 131072, MIN, MAX}) {
            Check.outOfBounds("memory(" + at + ")", () -> host.memory(at));
        }
    }

    private static void errors() {
        Check.sentence("ERROR k that was told, what 0: which (1 to 8), 1: PC, 2: NUMBER, 3 to 6: the latest RETURN, the one before .. (0: none)");
        Renewed host = new Asm().words(Asm.load(0, 6, 5, 77), Asm.jal(1, 4), Asm.jal(1, 4), Asm.jal(1, 4), Asm.branch(0, 5, 0, 4), Asm.jal(1, 4),
                Asm.jal(1, 4), Asm.store(0, 0, 5, 99)).after(8);
        int[][] want = {{3, 0, 77, 0, 0, 0, 0}, {2, 16, 0, 16, 12, 8, 0}, {3, 28, 99, 28, 24, 16, 12}};
        for (int k = 0; k < 3; k++) {
            for (int what = 0; what < 7; what++) {
                Check.due("error(" + k + ", " + what + ")", host.error(k, what), want[k][what]);
            }
        }
    }

    private static void errorsRefused() {
        Check.sentence("IllegalArgumentException: another what. IndexOutOfBoundsException: there is none");
        Renewed none = new Renewed();
        Renewed two = new Asm().words(Asm.branch(0, 5, 0, 4), Asm.branch(0, 5, 0, 4)).after(2);
        for (int what = 0; what <= 6; what++) {
            int one = what;
            Check.outOfBounds("error(0, " + one + ") of none", () -> none.error(0, one));
            Check.outOfBounds("error(2, " + one + ") of two", () -> two.error(2, one));
            Check.outOfBounds("error(-1, " + one + ")", () -> two.error(-1, one));
            Check.due("error(1, " + one + ")", two.error(1, one), one == 0 ? 2 : one == 1 ? 4 : 0);
        }
        for (int k : new int[] {3, 59, 60, 61, MIN, MAX, -2}) {
            Check.outOfBounds("error(" + k + ", 0)", () -> two.error(k, 0));
        }
        for (int what : new int[] {-1, 7, 8, 60, MIN, MAX}) {
            Check.illegal("error(0, " + what + ")", () -> two.error(0, what));
        }
    }

    private static void outputs() {
        Check.sentence("Octet k that was put out. IndexOutOfBoundsException: there is none");
        Renewed host = new Asm().call(5, 0x1FF).call(5, 0x200).after(8);
        Check.due("output(0)", host.output(0), 255);
        Check.due("output(1)", host.output(1), 0);
        for (int k : new int[] {-1, 2, 3, 4095, 4096, MIN, MAX}) {
            Check.outOfBounds("output(" + k + ")", () -> host.output(k));
        }
        Check.outOfBounds("output(0) of none", () -> new Renewed().output(0));
    }

    private static void counts() {
        Check.sentence("4: ERRORS that were told, 5: all of them, also those not told; 6: octets that were put out; 7: LIVE BLOCKS; 8: KEPT ones;"
                + " 9: LIVE octets (n each); 10: RETURNS");
        Renewed host = new Asm().call(2, 100).word(Asm.addi(18, 10, 0)).call(2, 0).call(2, 33).call(2, 5).call(3).call(5, 1).call(5, 2)
                .words(Asm.jal(1, 4), Asm.jal(1, 4), Asm.addi(6, 0, 3), Asm.branch(0, 31, 0, 4), Asm.addi(6, 6, -1), Asm.branch(1, 6, 0, -8))
                .word(Asm.BREAK).done();
        int[] want = {1, 3, 2, 3, 1, 133, 2};
        for (int what = 4; what <= 10; what++) {
            Check.due("count(" + what + ")", host.count(what), want[what - 4]);
        }
    }

    private static void countsOfEnds() {
        Check.sentence("What 0: how it ended (0, 1, 2 as run()); 1: x10 of the EXIT, or which TRAP (else 0); 2: PC;"
                + " 3: INSTRUCTIONS that were done (that of the EXIT, too; of the TRAP not)");
        Asm[] programs = {new Asm().words(0x0F, 0x0F, Asm.jal(0, 0)), new Asm().call(1, 44), new Asm().words(0x0F, Asm.jal(0, 2)),
            new Asm().words(0x0F, 0x0F, 0), new Asm().words(0x0F, 0x0F, Asm.store(1, 0, 0, -1)), new Asm().words(0x0F, 0x0F, Asm.BREAK)};
        int[][] want = {{0, 0, 8, 1000}, {1, 44, 12, 4}, {2, 0, 6, 2}, {2, 1, 8, 2}, {2, 2, 8, 2}, {2, 3, 8, 2}};
        for (int k = 0; k < programs.length; k++) {
            Renewed host = programs[k].after(1000);
            for (int what = 0; what < 4; what++) {
                Check.due("program " + k + ", count(" + what + ")", host.count(what), want[k][what]);
            }
        }
        Renewed minus = new Asm().call(1, -5).host();
        minus.run(3);
        Check.due("x10 is there, but no EXIT yet", minus.count(1), 0);
        minus.run(1);
        Check.due("x10 of the EXIT", minus.count(1), -5);
    }

    private static void countsRefused() {
        Check.sentence("IllegalArgumentException for others");
        Renewed host = new Renewed();
        for (int what : new int[] {-1, -2, 11, 12, 100, MIN, MAX}) {
            Check.illegal("count(" + what + ")", () -> host.count(what));
        }
        Check.due("count(10)", host.count(10), 0);
        Check.due("count(0)", host.count(0), 0);
    }

    private static void namedFirst() {
        Check.sentence("Of several exceptions of a call the one that its words name first is thrown");
        Renewed full = new Renewed();
        for (int i = 0; i < 128; i++) {
            full.input(0L, 8);
        }
        for (int n : new int[] {0, 9, -1, MAX, MIN}) {
            Check.illegal("input(.., " + n + ") when it is full", () -> full.input(0L, n));
        }
        Check.outOfBounds("input(.., 1) when it is full", () -> full.input(0L, 1));
        for (int what : new int[] {-1, 7, MIN, MAX}) {
            for (int k : new int[] {-1, 0, 60, MIN, MAX}) {
                Check.illegal("error(" + k + ", " + what + ")", () -> full.error(k, what));
            }
        }
    }

    private static void changesNothing() {
        Check.sentence("A call that throws changes nothing but what is said there");
        Asm asm = reader();
        Renewed host = asm.host();
        host.input(0x4241L, 2);
        host.run(2);
        Runnable[] wrong = {() -> host.image(4, -1L), () -> host.image(16384, -1L), () -> host.image(-8, -1L), () -> host.input(-1L, 0),
            () -> host.input(-1L, 9), () -> host.run(-1), () -> host.run(100001), () -> host.error(0, 7), () -> host.count(11)};
        for (int k = 0; k < wrong.length; k++) {
            Check.illegal("wrong call " + k, wrong[k]);
        }
        Runnable[] none = {() -> host.register(32), () -> host.unknown(-1), () -> host.memory(65536), () -> host.error(0, 0), () -> host.output(0)};
        for (int k = 0; k < none.length; k++) {
            Check.outOfBounds("call of none " + k, none[k]);
        }
        int[] want = {0, 0, 8, 2, 0, 0, 0, 0, 0, 0, 0};
        for (int what = 0; what <= 10; what++) {
            Check.due("count(" + what + ")", host.count(what), want[what]);
        }
        for (int at = 0; at < 24; at++) {
            Check.due("memory(" + at + ")", host.memory(at), 65536 + asm.octet(at));
        }
        host.run(2);
        Check.due("the next octet", host.register(10), 0x42);
        Check.due("two were put in", host.input(0L, 1), 3);
        host.begin();
        for (int at = 0; at < 24; at++) {
            Check.due("memory(" + at + ") behind begin()", host.memory(at), 65536 + asm.octet(at));
        }
    }

    /** Nothing of one object is in another one. */
    private static void objectsApart() {
        Check.sentence("A new object");
        Renewed first = new Asm().call(2, 20).words(Asm.jal(1, 4), Asm.branch(0, 31, 0, 4)).call(5, 7).host();
        Renewed second = new Renewed();
        first.input(1L, 1);
        first.run(10);
        fresh("beside another one", second);
        Check.due("octet 0", second.memory(0), 65536);
        Check.due("the first one goes on", first.count(7), 1);
        second.begin();
        Check.due("the first one stays", first.count(3), 10);
        Check.due("its BLOCK", first.memory(FIRST), OPEN_UNGIVEN);
        Check.due("nothing put in", second.input(0L, 1), 1);
    }

    private static void lastCalls() {
        Check.sentence("An object is used for at most 512 calls after it has been made");
        ShadowHost host = new ShadowHost();
        host.image(0, Asm.addi(5, 5, 1) & 0xFFFFFFFFL | (long) Asm.jal(0, -4) << 32);
        host.begin();
        for (int call = 3; call <= 510; call++) {
            Check.due("call " + call, host.run(100000), 0);
        }
        Check.due("call 511", host.count(3), 50800000);
        Check.due("call 512", host.register(5), 25400000);
        ShadowHost many = new ShadowHost();
        for (int call = 1; call <= 511; call++) {
            many.begin();
        }
        Check.due("call 512 behind many begin()", many.register(2), 65536);
    }
}
