/** Term 3: the CALLS, sentence by sentence, with the edges that each of them names. */
public final class CallEdgesTest {
    private static final int FIRST = 32784;
    private static final int OPEN_UNGIVEN = 65536 + 255 * 256;

    public static void main(String[] args) {
        answers();
        nothingElse();
        otherRegistersStay();
        ungivenWhich();
        ungivenFirst();
        ungivenSecond();
        ungivenOctet();
        exits();
        makes();
        givesBack();
        remakesOfNone();
        remakes();
        remakesNone();
        putsOut();
        takesIn();
        others();
        Check.finish();
    }

    private static void answers() {
        Check.sentence("the answer, if there is one (3 and 5 have none: x10 stays), comes to x10, all GIVEN");
        int[] which = {0, 2, 3, 4, 5, 6, 7};
        int[] want = {-1, 0, 64, 0, 64, -1, -1};
        for (int k = 0; k < which.length; k++) {
            // x10 is 64 and not GIVEN in bit 30, so that no BLOCK is made.
            Renewed host = new Asm().mixed(10, 64 | 1 << 30, 1 << 30).li(11, 8).call(which[k]).after(10);
            boolean stays = which[k] == 3 || which[k] == 5;
            Check.due("CALL " + which[k], host.register(10), stays ? 64 | 1 << 30 : want[k]);
            Check.due("CALL " + which[k] + ": GIVEN", host.unknown(10), stays ? 1 << 30 : 0);
            Check.due("PC", host.count(2), 40);
        }
        Renewed made = new Asm().mixed(10, 16, 16).call(2).after(8);
        Check.due("an address", made.register(10), FIRST);
        Check.due("is GIVEN", made.unknown(10), 0);
        Renewed back = new Asm().call(2, 16).word(Asm.addi(18, 10, 0)).mixed(10, FIRST, 1).call(3).after(13);
        Check.due("3 of a BLOCK: x10 stays", back.register(10), FIRST);
        Check.due("as it was", back.unknown(10), 1);
        Check.due("given back", back.count(7), 0);
    }

    private static void nothingElse() {
        Check.sentence("CALLS by x17, with x10, x11");
        for (int call = 0; call <= 7; call++) {
            // Two octets are put in; x10 is 0, x11 is 8.
            Renewed host = new Asm().call(call, 0, 8).call(6).host();
            host.input(0x4241L, 2);
            host.run(6);
            Check.due("CALL " + call + ": how it ended", host.count(0), call == 1 ? 1 : 0);
            Check.due("CALL " + call + ": put out", host.count(6), call == 5 ? 1 : 0);
            Check.due("CALL " + call + ": LIVE", host.count(7), call == 2 || call == 4 ? 1 : 0);
            Check.due("CALL " + call + ": KEPT", host.count(8), 0);
            Check.due("CALL " + call + ": ERRORS", host.count(5), 0);
            host.run(2);
            Check.due("CALL " + call + ": the next octet", host.register(10), call == 1 ? 0 : call == 6 ? 0x42 : 0x41);
        }
    }

    private static void otherRegistersStay() {
        Check.sentence("CALLS by x17, with x10, x11");
        for (int call = 0; call <= 7; call++) {
            if (call == 1) {
                continue;
            }
            Asm asm = new Asm();
            for (int k = 1; k < 32; k++) {
                asm.li(k, k == 10 ? 0 : 1000 + k);
            }
            Renewed host = asm.call(call).after(64);
            for (int k = 1; k < 32; k++) {
                if (k != 10) {
                    Check.due("CALL " + call + ", x" + k, host.register(k), k == 17 ? call : 1000 + k);
                    Check.due("CALL " + call + ", GIVEN", host.unknown(k), 0);
                }
            }
        }
    }

    private static void ungivenWhich() {
        Check.sentence("ERROR 5: a bit of x17 is not GIVEN (NUMBER 17)");
        for (int bit : new int[] {0, 1, 2, 15, 31}) {
            for (int call = 0; call <= 7; call++) {
                // x10 and x11 are not GIVEN either, but 17 alone is told.
                Renewed host = new Asm().mixed(17, call, 1 << bit).word(Asm.CALL).after(7);
                Check.due("CALL " + call + ", bit " + bit, host.count(5), 1);
                Check.error("CALL " + call + ", bit " + bit, host, 0, 5, 24, 17, 0, 0, 0, 0);
                Check.due("it is done all the same", host.count(0), call == 1 ? 1 : 0);
            }
        }
        Check.due("2 is done all the same", new Asm().mixed(17, 2, 1).word(Asm.CALL).after(7).count(7), 1);
        Check.due("5 is done all the same", new Asm().mixed(17, 5, 1).word(Asm.CALL).after(7).count(6), 1);
    }

    private static void ungivenFirst() {
        Check.sentence("else of the first one of x10, x11 that it uses (NUMBER 10, 11");
        for (int call = 0; call <= 7; call++) {
            boolean uses = call >= 1 && call <= 5;
            for (int bit : new int[] {0, 7}) {
                Renewed host = new Asm().mixed(10, 0, 1 << bit).call(call).after(8);
                Check.due("CALL " + call + ", bit " + bit, host.count(5), uses ? 1 : 0);
                if (uses) {
                    // 4 would use x11, too, which is not GIVEN: x10 is the first one.
                    Check.error("CALL " + call + ", bit " + bit, host, 0, 5, 28, 10, 0, 0, 0, 0);
                }
            }
            Renewed high = new Asm().mixed(10, 0, Integer.MIN_VALUE).call(call).after(8);
            Check.due("CALL " + call + ", bit 31", high.count(5), uses && call != 5 ? 1 : 0);
            Check.due("CALL " + call + ", all GIVEN", new Asm().li(11, 0).call(call, 0).after(6).count(5), 0);
        }
        Renewed exit = new Asm().call(1).after(2);
        Check.error("EXIT uses x10", exit, 0, 5, 4, 10, 0, 0, 0, 0);
    }

    private static void ungivenSecond() {
        Check.sentence("of the first one of x10, x11 that it uses");
        for (int call = 0; call <= 7; call++) {
            for (int bit : new int[] {0, 31}) {
                Renewed host = new Asm().mixed(11, 0, 1 << bit).call(call, 0).after(10);
                Check.due("CALL " + call + ", bit " + bit, host.count(5), call == 4 ? 1 : 0);
                if (call == 4) {
                    Check.error("x11, bit " + bit, host, 0, 5, 36, 11, 0, 0, 0, 0);
                }
            }
        }
        Renewed block = new Asm().call(2, 8).mixed(11, 24, 8).call(4).after(12);
        Check.error("of a BLOCK", block, 0, 5, 44, 11, 0, 0, 0, 0);
        Check.due("done all the same", block.count(9), 24);
        Check.due("one", block.count(5), 1);
    }

    private static void ungivenOctet() {
        Check.sentence("of 5 the lowest 8 bits of x10 alone)");
        for (int bit = 0; bit < 32; bit++) {
            Renewed host = new Asm().mixed(10, 0x41, 1 << bit).call(5).after(8);
            Check.due("bit " + bit, host.count(5), bit < 8 ? 1 : 0);
            Check.due("put out", host.output(0), 0x41);
        }
    }

    private static void exits() {
        Check.sentence("1 EXIT with x10 (PC stays)");
        for (int code : new int[] {0, 1, -1, Integer.MIN_VALUE, 12345}) {
            Renewed host = new Asm().call(1, code).word(Asm.addi(5, 0, 9)).host();
            Check.due("EXIT", host.run(100), 1);
            Check.due("x10", host.count(1), code);
            Check.due("PC", host.count(2), 12);
            Check.due("x10 stays", host.register(10), code);
            Check.due("done", host.count(3), 4);
            Check.due("nothing behind it", host.unknown(5), -1);
        }
        Check.due("x10 stays not GIVEN", new Asm().call(1).done().unknown(10), -1);
    }

    private static void makes() {
        Check.sentence("2 a BLOCK of x10 octets: its address, or 0");
        Renewed host = new Asm().call(2, 24).after(4);
        Check.due("its address", host.register(10), FIRST);
        Check.due("LIVE", host.count(7), 1);
        Check.due("octets", host.count(9), 24);
        Renewed none = new Asm().call(2, 16385).after(4);
        Check.due("or 0", none.register(10), 0);
        Check.due("no ERROR", none.count(5), 0);
        Check.due("no BLOCK", none.count(7), 0);
    }

    private static void givesBack() {
        Check.sentence("3 the BLOCK at x10 is given back (0: nothing)");
        Renewed host = new Asm().call(2, 24).call(3).after(6);
        Check.due("LIVE", host.count(7), 0);
        Check.due("KEPT", host.count(8), 1);
        Check.due("no ERROR", host.count(5), 0);
        Renewed zero = new Asm().call(2, 24).call(3, 0).after(8);
        Check.due("0: LIVE", zero.count(7), 1);
        Check.due("0: KEPT", zero.count(8), 0);
        Check.due("0: no ERROR", zero.count(5), 0);
        Check.due("0: x10", zero.register(10), 0);
    }

    private static void remakesOfNone() {
        Check.sentence("4 the BLOCK at x10 gets x11 octets: as 2 if x10 is 0");
        for (int n : new int[] {0, 1, 40, 16384}) {
            Renewed host = new Asm().call(4, 0, n).after(6);
            Check.due(n + ": its address", host.register(10), FIRST);
            Check.due(n + ": octets", host.count(9), n);
            Check.due(n + ": LIVE", host.count(7), 1);
            Check.due(n + ": KEPT", host.count(8), 0);
            Check.due(n + ": no ERROR", host.count(5), 0);
        }
        for (int n : new int[] {16385, -1}) {
            Renewed host = new Asm().call(4, 0, n).after(6);
            Check.due(n + ": none", host.register(10), 0);
            Check.due(n + ": no ERROR", host.count(5), 0);
        }
    }

    /** A BLOCK of n octets, 0x81 on, of which those of odd places are not GIVEN; CALL 4 makes it one of m. */
    private static Asm remade(int n, int m) {
        Asm asm = new Asm().call(2, n);
        for (int i = 0; i < n; i++) {
            asm.word(Asm.addi(5, 0, 0x81 + i));
            if (i % 2 == 1) {
                asm.word(Asm.r(0, 4, 5, 5, 31));
            }
            asm.word(Asm.store(0, 5, 10, i));
        }
        return asm.li(11, m).call(4);
    }

    private static void remakes() {
        Check.sentence("a new one is made as by 2, the octets with their SHADOWS (as many as both have) come there,"
                + " and the old one is given back: the new address");
        int[][] sizes = {{6, 6}, {6, 5}, {6, 7}, {6, 0}, {0, 6}, {1, 40}, {40, 1}, {17, 16}};
        for (int[] s : sizes) {
            Asm asm = remade(s[0], s[1]);
            Renewed host = asm.after(asm.here() / 4);
            String about = s[0] + " to " + s[1];
            int at = FIRST + 16 + Math.max(16, (s[0] + 15) / 16 * 16);
            Check.due(about + ": the new address", host.register(10), at);
            for (int i = 0; i < Math.max(s[0], s[1]) + 2; i++) {
                int shadow = i % 2 == 1 ? 255 * 256 : 0;
                int moved = i < s[0] ? 65536 + shadow + 0x81 + i : OPEN_UNGIVEN;
                Check.due(about + ": octet " + i, host.memory(at + i), i < s[1] ? moved : 0);
            }
            for (int i = 0; i < s[0] + 2; i++) {
                Check.due(about + ": old octet " + i, host.memory(FIRST + i), i < s[0] ? 0x81 + i : 0);
            }
            Check.due(about + ": before it", host.memory(at - 1), 0);
            Check.due(about + ": LIVE", host.count(7), 1);
            Check.due(about + ": KEPT", host.count(8), 1);
            Check.due(about + ": LIVE octets", host.count(9), s[1]);
            Check.due(about + ": no ERROR", host.count(5), 0);
        }
        // The old one is still there when the new one is made, though it is free at once then.
        Renewed large = new Asm().call(2, 4000).li(11, 4000).call(4).call(2, 4000).after(14);
        Check.due("not in its place", large.count(7), 2);
        Check.due("which is free behind that", large.register(10), FIRST);
    }

    private static void remakesNone() {
        Check.sentence("0 if there is none (the old one stays)");
        for (int n : new int[] {16385, -1, Integer.MIN_VALUE}) {
            Asm asm = remade(3, n);
            Renewed host = asm.after(asm.here() / 4);
            stays(n + "", host, 3);
        }
        Asm full = new Asm().call(2, 16384).word(Asm.addi(18, 10, 0)).call(2, 3).word(Asm.addi(19, 10, 0)).li(11, 8120).word(Asm.addi(10, 18, 0))
                .call(4);
        Renewed host = full.after(full.here() / 4);
        Check.due("no room: 0", host.register(10), 0);
        Check.due("no room: LIVE", host.count(7), 2);
        Check.due("no room: LIVE octets", host.count(9), 16387);
        Check.due("no room: OPEN still", host.memory(FIRST + 16383), OPEN_UNGIVEN);
        Check.due("no room: KEPT", host.count(8), 0);
        Check.due("no room: no ERROR", host.count(5), 0);
    }

    private static void stays(String about, Renewed host, int n) {
        Check.due(about + ": 0", host.register(10), 0);
        Check.due(about + ": GIVEN", host.unknown(10), 0);
        Check.due(about + ": LIVE", host.count(7), 1);
        Check.due(about + ": KEPT", host.count(8), 0);
        Check.due(about + ": LIVE octets", host.count(9), n);
        Check.due(about + ": no ERROR", host.count(5), 0);
        for (int i = 0; i < n; i++) {
            Check.due(about + ": octet " + i, host.memory(FIRST + i), 65536 + (i % 2 == 1 ? 255 * 256 : 0) + 0x81 + i);
        }
    }

    private static void putsOut() {
        Check.sentence("5 the lowest octet of x10 is put out (4096 at most, more are lost)");
        Renewed octets = new Asm().call(5, 0x12345680).call(5, -1).call(5, 256).after(12);
        Check.due("0x80", octets.output(0), 0x80);
        Check.due("255", octets.output(1), 255);
        Check.due("0", octets.output(2), 0);
        Check.due("three", octets.count(6), 3);
        Renewed host = new Asm().words(Asm.addi(17, 0, 5), Asm.addi(10, 0, 7), Asm.CALL, Asm.addi(10, 10, 1), Asm.jal(0, -8)).host();
        host.run(2 + 3 * 4095);
        Check.due("4095", host.count(6), 4095);
        Check.outOfBounds("output(4095)", () -> host.output(4095));
        host.run(3);
        Check.due("4096", host.count(6), 4096);
        Check.due("the last", host.output(4095), (7 + 4095) % 256);
        host.run(3 * 10);
        Check.due("more are lost", host.count(6), 4096);
        Check.due("the first stays", host.output(0), 7);
        Check.due("the last stays", host.output(4095), (7 + 4095) % 256);
        Check.outOfBounds("output(4096)", () -> host.output(4096));
        Check.due("no ERROR", host.count(5), 0);
        Check.due("it goes on", host.count(0), 0);
    }

    private static void takesIn() {
        Check.sentence("6: the next octet that is put in, -1 if there is none");
        Renewed host = new Asm().words(Asm.addi(17, 0, 6), Asm.CALL, Asm.jal(0, -4)).host();
        host.run(2);
        Check.due("none", host.register(10), -1);
        Check.due("GIVEN", host.unknown(10), 0);
        host.input(0xFF80L, 3);
        for (int want : new int[] {0x80, 0xFF, 0, -1, -1}) {
            host.run(2);
            Check.due("the next one", host.register(10), want);
        }
        host.input(0x41L, 1);
        host.run(2);
        Check.due("one put in behind a -1", host.register(10), 0x41);
        host.run(2);
        Check.due("none again", host.register(10), -1);
        Check.due("no ERROR", host.count(5), 0);
    }

    private static void others() {
        Check.sentence("Others: -1");
        for (int call : new int[] {0, 7, 8, 10, 17, 255, 256, 257, 258, 0x10001, 0x10002, -1, -2, Integer.MIN_VALUE, Integer.MIN_VALUE + 1}) {
            Renewed host = new Asm().li(17, call).li(10, 5).word(Asm.CALL).after(5);
            Check.due("CALL " + call, host.register(10), -1);
            Check.due("CALL " + call + " goes on", host.count(0), 0);
            Check.due("CALL " + call + ": ERRORS", host.count(5), 0);
            Check.due("CALL " + call + ": PC", host.count(2), 20);
            Check.due("CALL " + call + ": BLOCKS", host.count(7), 0);
            Check.due("CALL " + call + ": put out", host.count(6), 0);
        }
    }
}
