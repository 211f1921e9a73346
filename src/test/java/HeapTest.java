/** The CALLS 2, 3 and 4 of term 3, by what promises 5 to 11 tell of them. */
public final class HeapTest {
    private static final int FIRST = 32784;

    public static void main(String[] args) {
        made();
        placed();
        sizes();
        full();
        givenBack();
        keptAtMost();
        wrongOnes();
        remade();
        remadeSmaller();
        notRemade();
        Check.finish();
    }

    private static void made() {
        Renewed host = new Asm().li(5, FIRST).word(Asm.store(2, 5, 5, 0)).call(2, 20).word(Asm.BREAK).done();
        Check.due("its address", host.register(10), FIRST);
        Check.due("GIVEN", host.unknown(10), 0);
        Check.due("the octets as they are, OPEN, not GIVEN", host.memory(FIRST), 65536 + 65280 + 0x10);
        Check.due("the last", host.memory(FIRST + 19), 65536 + 65280);
        Check.due("behind it", host.memory(FIRST + 20), 0);
        Check.due("before it", host.memory(FIRST - 1), 0);
        Check.due("LIVE", host.count(7), 1);
        Check.due("LIVE octets", host.count(9), 20);
    }

    private static void placed() {
        int[] sizes = {0, 1, 16, 17, 32, 0, 100, 2048};
        int[] takes = {16, 16, 16, 32, 32, 16, 112, 2048};
        Asm asm = new Asm();
        int at = FIRST;
        for (int n : sizes) {
            asm.call(2, n);
        }
        Renewed host = asm.host();
        for (int k = 0; k < sizes.length; k++) {
            host.run(4);
            Check.due("the BLOCK of " + sizes[k], host.register(10), at);
            at += takes[k] + 16;
        }
    }

    private static void sizes() {
        for (int n : new int[] {16385, -1, Integer.MIN_VALUE, Integer.MAX_VALUE}) {
            Renewed host = new Asm().call(2, n).word(Asm.BREAK).done();
            Check.due("no BLOCK of " + n, host.register(10), 0);
            Check.due("GIVEN", host.unknown(10), 0);
            Check.due("none", host.count(7), 0);
        }
        Renewed host = new Asm().call(2, 16384).word(Asm.addi(5, 10, 0)).call(2, 8112).word(Asm.addi(6, 10, 0))
                .call(2, 8128).word(Asm.addi(7, 10, 0)).call(2, 0).word(Asm.BREAK).done();
        Check.due("16384", host.register(5), FIRST);
        Check.due("8112", host.register(6), FIRST + 16400);
        Check.due("no room", host.register(7), 0);
        Check.due("16 at least, with 16 before and behind", host.register(10), 57312);
        Renewed tight = new Asm().call(2, 16384).call(2, 8145).word(Asm.addi(6, 10, 0)).call(2, 8144).word(Asm.BREAK).done();
        Check.due("one octet too many", tight.register(6), 0);
        Check.due("up to 16 before the end", tight.register(10), FIRST + 16400);
    }

    private static void full() {
        Renewed host = new Asm().words(Asm.addi(17, 0, 2), Asm.addi(10, 0, 0), Asm.CALL, Asm.jal(0, -8)).host();
        host.run(3 * 767);
        Check.due("the last one", host.register(10), FIRST + 766 * 32);
        Check.due("LIVE", host.count(7), 767);
        host.run(3);
        Check.due("no room", host.register(10), 0);
        Check.due("LIVE", host.count(7), 767);
        Check.due("of no octets", host.count(9), 0);
    }

    private static void givenBack() {
        Renewed host = new Asm().call(2, 20).words(Asm.store(2, 10, 10, 0)).call(3).call(2, 4).word(Asm.BREAK).host();
        host.run(7);
        Check.due("x10 stays", host.register(10), FIRST);
        Check.due("not OPEN, all GIVEN, the number stays", host.memory(FIRST), 0x10);
        Check.due("all of it", host.memory(FIRST + 19), 0);
        Check.due("LIVE", host.count(7), 0);
        Check.due("KEPT", host.count(8), 1);
        Check.due("LIVE octets", host.count(9), 0);
        host.run(100);
        Check.due("not where a KEPT one is", host.register(10), FIRST + 48);
        Renewed nothing = new Asm().call(3, 0).word(Asm.BREAK).done();
        Check.due("0: nothing", nothing.count(5), 0);
        Check.due("TRAP 3", nothing.count(1), 3);
        Renewed ungiven = new Asm().call(3).word(Asm.BREAK).done();
        Check.due("x10 stays as it is", ungiven.unknown(10), -1);
    }

    /** BLOCKS of the sizes are made, then given back in this order: how many are KEPT then. */
    private static Renewed kept(int... sizes) {
        Asm asm = new Asm();
        for (int k = 0; k < sizes.length; k++) {
            asm.call(2, sizes[k]).word(Asm.addi(18 + k, 10, 0));
        }
        for (int k = 0; k < sizes.length; k++) {
            asm.word(Asm.addi(10, 18 + k, 0)).call(3);
        }
        return asm.call(2, 1).word(Asm.BREAK).done();
    }

    private static void keptAtMost() {
        Check.due("2048 are", kept(2048).count(8), 1);
        Check.due("2049 are not", kept(2049).count(8), 0);
        Check.due("its place is free", kept(2049).register(10), FIRST);
        Check.due("not OPEN", kept(2049).memory(FIRST + 1), 0);
        Check.due("both", kept(1000, 1048).count(8), 2);
        Check.due("the oldest goes", kept(1000, 1049).count(8), 1);
        Check.due("its place is free", kept(1000, 1049).register(10), FIRST);
        Check.due("several go", kept(500, 500, 500, 2000).count(8), 1);
        Check.due("all go, it itself too", kept(0, 500, 500, 3000).count(8), 0);
        Check.due("those of no octets go in their turn", kept(0, 1024, 0, 1025).count(8), 2);
        Check.due("those of no octets stay", kept(0, 0, 0, 2048).count(8), 4);
        Check.due("none goes without need", kept(0, 1024, 1024).count(8), 3);
        Check.due("no ERROR", kept(500, 500, 500, 2000).count(5), 0);
    }

    private static void wrongOnes() {
        Renewed twice = new Asm().call(2, 8).call(3).call(3).word(Asm.BREAK).done();
        Check.error("given back twice", twice, 0, 6, 28, FIRST, 0, 0, 0, 0);
        Check.due("KEPT", twice.count(8), 1);
        Renewed freed = new Asm().call(2, 3000).call(3).call(3).word(Asm.BREAK).done();
        Check.error("free again", freed, 0, 7, 28, FIRST);
        for (int wrong : new int[] {FIRST + 1, FIRST + 16, FIRST - 16, 32768, 57328, 57344, 16, -16, 65536, Integer.MIN_VALUE}) {
            Renewed host = new Asm().call(2, 40).call(3, wrong).word(Asm.BREAK).done();
            Check.error("3 of " + wrong, host, 0, 7, 28, wrong);
            Check.due("x10 stays", host.register(10), wrong);
            Check.due("LIVE", host.count(7), 1);
            Renewed four = new Asm().call(2, 40).call(4, wrong, 8).word(Asm.BREAK).done();
            Check.error("4 of " + wrong, four, 0, 7, 36, wrong);
            Check.due("4 tells 0", four.register(10), 0);
            Check.due("LIVE", four.count(7), 1);
        }
        Renewed kept = new Asm().call(2, 8).call(3).word(Asm.addi(11, 0, 30)).call(4).word(Asm.BREAK).done();
        Check.error("4 of a KEPT one", kept, 0, 6, 32, FIRST);
        Check.due("4 tells 0", kept.register(10), 0);
        Check.due("no BLOCK", kept.count(7), 0);
        // x10 not GIVEN, and no BLOCK: 5, then 7.
        Renewed both = new Asm().words(Asm.i(0x13, 6, 10, 31, 64)).call(3).word(Asm.BREAK).done();
        Check.error("5", both, 0, 5, 8, 10);
        Check.error("7", both, 1, 7, 8, 64);
    }

    private static void remade() {
        Renewed host = new Asm().call(2, 6).words(Asm.addi(5, 0, 0x77), Asm.store(0, 5, 10, 1), Asm.store(0, 5, 10, 5),
                Asm.addi(11, 0, 40)).call(4).word(Asm.BREAK).done();
        int at = FIRST + 32;
        Check.due("the new address", host.register(10), at);
        Check.due("GIVEN", host.unknown(10), 0);
        Check.due("not GIVEN, as it was", host.memory(at), 65536 + 65280);
        Check.due("GIVEN, as it was", host.memory(at + 1), 65536 + 0x77);
        Check.due("the last of the old one", host.memory(at + 5), 65536 + 0x77);
        Check.due("new ones", host.memory(at + 6), 65536 + 65280);
        Check.due("up to the end", host.memory(at + 39), 65536 + 65280);
        Check.due("not more", host.memory(at + 40), 0);
        Check.due("the old one is given back", host.memory(FIRST + 1), 0x77);
        Check.due("LIVE", host.count(7), 1);
        Check.due("KEPT", host.count(8), 1);
        Check.due("LIVE octets", host.count(9), 40);
        Renewed none = new Asm().call(4, 0, 33).word(Asm.BREAK).done();
        Check.due("as 2 if x10 is 0", none.register(10), FIRST);
        Check.due("33 octets", none.count(9), 33);
        Check.due("no ERROR", none.count(5), 0);
    }

    private static void remadeSmaller() {
        Renewed host = new Asm().call(2, 4).words(Asm.addi(5, 0, 0x11), Asm.store(0, 5, 10, 0), Asm.store(0, 5, 10, 1),
                Asm.addi(11, 0, 1)).call(4).word(Asm.BREAK).done();
        Check.due("one octet", host.memory(FIRST + 32), 65536 + 0x11);
        Check.due("not the other", host.memory(FIRST + 33), 0);
        Renewed zero = new Asm().call(2, 4).word(Asm.addi(11, 0, 0)).call(4).word(Asm.BREAK).done();
        Check.due("of no octets", zero.register(10), FIRST + 32);
        Check.due("LIVE", zero.count(7), 1);
        Check.due("LIVE octets", zero.count(9), 0);
    }

    private static void notRemade() {
        for (int n : new int[] {16385, -1}) {
            Renewed host = new Asm().call(2, 4).li(11, n).call(4).word(Asm.BREAK).done();
            Check.due("none of " + n, host.register(10), 0);
            Check.due("the old one stays", host.memory(FIRST + 3), 65536 + 65280);
            Check.due("LIVE", host.count(7), 1);
            Check.due("no ERROR", host.count(5), 0);
        }
        Renewed room = new Asm().call(2, 13000).li(11, 13000).call(4).word(Asm.BREAK).done();
        Check.due("no room beside the old one", room.register(10), 0);
        Check.due("LIVE octets", room.count(9), 13000);
        Renewed large = new Asm().call(2, 3000).li(11, 3000).call(4).word(Asm.addi(11, 0, 5)).call(4).word(Asm.BREAK).done();
        Check.due("the old one's place is free", large.register(10), FIRST);
        Check.due("KEPT", large.count(8), 0);
    }
}
