/** EXIT of term 3: which BLOCKS are FOUND, and how those that are LOST are told. */
public final class LostTest {
    private static final int FIRST = 32784;

    public static void main(String[] args) {
        inRegisters();
        inMemory();
        inBlocks();
        told();
        foundAnew();
        Check.finish();
    }

    /** What an earlier EXIT had FOUND does not count behind begin(). */
    private static void foundAnew() {
        Renewed host = new Asm().call(2, 20).words(Asm.store(2, 10, 2, -4), Asm.addi(5, 10, 0)).call(2, 20)
                .words(Asm.store(2, 10, 5, 0), Asm.addi(5, 0, 0)).call(1, 0).done();
        Check.due("FOUND", host.count(5), 0);
        host.image(16, 0x0F | (long) Asm.addi(5, 10, 0) << 32);
        host.begin();
        Check.due("EXIT", host.run(100), 1);
        lost("no more", host, FIRST, FIRST + 48);
    }

    /** Ends the program with x10 0; the numbers it wrote by li are gone from x5, x10 and x11. */
    private static Renewed end(Asm asm) {
        return asm.words(Asm.addi(5, 0, 0), Asm.addi(11, 0, 0)).call(1, 0).done();
    }

    private static void lost(String about, Renewed host, int... addresses) {
        Check.due(about + ": EXIT", host.count(0), 1);
        Check.due(about + ": ERRORS", host.count(5), addresses.length);
        for (int k = 0; k < addresses.length; k++) {
            Check.error(about, host, k, 8, host.count(2), addresses[k]);
        }
        Check.due(about + ": LIVE as before", host.count(7) >= addresses.length ? 1 : 0, 1);
    }

    private static void inRegisters() {
        lost("none", end(new Asm()));
        lost("one", end(new Asm().call(2, 20)), FIRST);
        lost("in x10 itself", new Asm().call(2, 20).call(1).done());
        lost("in x31", end(new Asm().call(2, 20).word(Asm.addi(31, 10, 0))));
        lost("inside it", end(new Asm().call(2, 20).word(Asm.addi(31, 10, 19))));
        lost("behind it", end(new Asm().call(2, 20).word(Asm.addi(31, 10, 20))), FIRST);
        lost("before it", end(new Asm().call(2, 20).word(Asm.addi(31, 10, -1))), FIRST);
        lost("of no octets", end(new Asm().call(2, 0).word(Asm.addi(31, 10, 0))));
        lost("of no octets, behind it", end(new Asm().call(2, 0).word(Asm.addi(31, 10, 1))), FIRST);
        lost("a bit is not GIVEN", end(new Asm().call(2, 20).words(Asm.i(0x13, 7, 6, 31, 1), Asm.r(0, 4, 30, 10, 6))), FIRST);
        for (int other : new int[] {57343, 57344, 32767, 32768, -1, Integer.MIN_VALUE}) {
            lost("another number: " + other, end(new Asm().call(2, 20).li(31, other)), FIRST);
        }
        lost("given back", end(new Asm().call(2, 20).call(3)));
        lost("free again", end(new Asm().call(2, 3000).call(3)));
    }

    /** A BLOCK whose address lies on the STACK; one octet of it, or two, are stored again as they are, but not GIVEN. */
    private static Asm ungiven(int octet, int storing, int reading) {
        return new Asm().call(2, 20).words(Asm.store(2, 10, 2, -4), Asm.load(reading, 5, 2, octet - 4), Asm.r(0, 4, 31, 31, 5),
                Asm.store(storing, 31, 2, octet - 4), Asm.addi(31, 0, 0));
    }

    private static void inMemory() {
        int[] places = {1024, 16380, 57344, 65532};
        for (int at : places) {
            lost("at " + at, end(new Asm().call(2, 20).li(5, at).word(Asm.store(2, 10, 5, 0))));
        }
        for (int at : new int[] {1025, 1026, 1027, 57346}) {
            lost("no multiple of 4: " + at, end(new Asm().call(2, 20).li(5, at).word(Asm.store(2, 10, 5, 0))), FIRST);
        }
        Renewed shut = end(new Asm().call(2, 20).li(5, 20000).word(Asm.store(2, 10, 5, 0)));
        Check.error("not OPEN", shut, 1, 8, shut.count(2), FIRST);
        Check.due("two", shut.count(5), 2);
        for (int octet = 0; octet < 4; octet++) {
            lost("octet " + octet + " is not GIVEN", end(ungiven(octet, 0, 4)), FIRST);
            if (octet < 3) {
                lost("octet " + octet + " and the next one are not GIVEN", end(ungiven(octet, 1, 5)), FIRST);
            }
        }
        Renewed again = end(new Asm().call(2, 20).words(Asm.store(1, 10, 2, -4), Asm.store(1, 0, 2, -2)));
        lost("by halves, all GIVEN", again);
    }

    private static void inBlocks() {
        // x18 holds the first, which holds the second, which holds the third.
        Asm chain = new Asm().call(2, 20).word(Asm.addi(18, 10, 0)).call(2, 20).words(Asm.addi(19, 10, 0), Asm.store(2, 19, 18, 16))
                .call(2, 20).words(Asm.store(2, 10, 19, 4), Asm.addi(19, 0, 0));
        lost("a chain", end(chain));
        Asm cut = new Asm().call(2, 20).word(Asm.addi(18, 10, 0)).call(2, 20).words(Asm.addi(19, 10, 0), Asm.store(2, 19, 18, 16))
                .call(2, 20).words(Asm.store(2, 10, 19, 4), Asm.addi(19, 0, 0), Asm.addi(18, 0, 0));
        lost("a chain without its first", end(cut), FIRST, FIRST + 48, FIRST + 96);
        // Back from a later address to an earlier one.
        Asm back = new Asm().call(2, 20).word(Asm.addi(18, 10, 0)).call(2, 20).words(Asm.addi(19, 10, 0), Asm.store(2, 18, 19, 0),
                Asm.addi(18, 0, 0));
        lost("a chain that goes back", end(back));
        Asm self = new Asm().call(2, 20).words(Asm.store(2, 10, 10, 0));
        lost("itself is not enough", end(self), FIRST);
        Asm ring = new Asm().call(2, 20).word(Asm.addi(18, 10, 0)).call(2, 20).words(Asm.addi(19, 10, 0), Asm.store(2, 18, 19, 0),
                Asm.store(2, 19, 18, 0), Asm.addi(19, 0, 0));
        lost("a ring that is held", end(ring));
        Asm end = new Asm().call(2, 6).word(Asm.addi(18, 10, 0)).call(2, 20).words(Asm.store(1, 10, 18, 4));
        lost("its last two octets are no four", end(end), FIRST + 32);
        Asm odd = new Asm().call(2, 20).word(Asm.addi(18, 10, 0)).call(2, 20).words(Asm.store(2, 10, 18, 2));
        lost("no multiple of 4 in it", end(odd), FIRST + 48);
        Asm kept = new Asm().call(2, 20).word(Asm.addi(18, 10, 0)).call(2, 20).words(Asm.store(2, 10, 18, 0), Asm.addi(10, 18, 0)).call(3);
        lost("a KEPT one holds nothing", end(kept), FIRST + 48);
    }

    private static void told() {
        // In a function, with an ERROR of the EXIT itself before.
        Renewed host = new Asm().call(2, 0).call(2, 5).word(Asm.jal(1, 4)).words(Asm.i(0x13, 7, 10, 31, 255)).call(1).done();
        int pc = 11 * 4;
        Check.due("PC", host.count(2), pc);
        Check.error("5 comes first", host, 0, 5, pc, 10, 36, 0, 0, 0);
        Check.error("by addresses", host, 1, 8, pc, FIRST, 36, 0, 0, 0);
        Check.error("each told", host, 2, 8, pc, FIRST + 32, 36, 0, 0, 0);
        Check.due("told", host.count(4), 3);
        Check.due("counted", host.count(5), 3);
        host.run(10);
        Check.due("not again", host.count(5), 3);
        Renewed many = new Asm().words(Asm.addi(6, 0, 100), Asm.addi(17, 0, 2), Asm.addi(10, 0, 1), Asm.CALL, Asm.addi(6, 6, -1),
                Asm.branch(1, 6, 0, -12)).call(1, 3).done();
        Check.due("60 at most", many.count(4), 60);
        Check.due("counted are all", many.count(5), 100);
        Check.error("the 60th", many, 59, 8, many.count(2), FIRST + 59 * 32);
        many.begin();
        Check.due("begun", many.count(5), 0);
        many.run(100000);
        Check.due("the same again", many.count(5), 100);
    }
}
