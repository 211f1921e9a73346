/** Term 2: which octets are OPEN, which bits are GIVEN, sentence by sentence, with the edges that each names. */
public final class ShadowEdgesTest {
    private static final int MIN = Integer.MIN_VALUE;
    private static final int SHUT_UNGIVEN = 255 * 256;
    private static final int OPEN_UNGIVEN = 65536 + 255 * 256;

    public static void main(String[] args) {
        openAtFirst();
        givenAtFirst();
        sums();
        ands();
        ors();
        exclusiveOrs();
        shifts();
        shiftsByUngiven();
        below();
        products();
        reading();
        readingShut();
        signs();
        numbersAreGiven();
        storing();
        storingShut();
        Check.finish();
    }

    private static void openAtFirst() {
        Check.sentence("At first OPEN: the IMAGE (octets 0 to 16383, whatever of them image() gave) and the STACK (57344 to 65535)");
        Renewed none = new Renewed();
        Renewed some = new Renewed();
        some.image(8, -1L);
        some.begin();
        for (Renewed host : new Renewed[] {none, some}) {
            for (int at : new int[] {0, 7, 8, 15, 16, 8191, 8192, 16376, 16383, 57344, 57345, 65535}) {
                Check.due("OPEN " + at, host.memory(at) >>> 16, 1);
            }
            for (int at : new int[] {16384, 16385, 20000, 32767, 32768, 45000, 57342, 57343}) {
                Check.due("not OPEN " + at, host.memory(at) >>> 16, 0);
            }
        }
        Renewed touched = new Asm().li(5, 16384).li(6, 57344).words(Asm.load(0, 7, 5, -1), Asm.load(0, 7, 6, 0), Asm.store(0, 0, 2, -1)).after(7);
        Check.due("the edges may be touched", touched.count(5), 0);
        Renewed beside = new Asm().li(5, 16384).li(6, 57344).words(Asm.load(0, 7, 5, 0), Asm.store(0, 0, 6, -1)).after(6);
        Check.error("behind the IMAGE", beside, 0, 4, 16, 16384);
        Check.error("before the STACK", beside, 1, 4, 20, 57343);
        Check.due("storing does not make it OPEN", beside.memory(57343), 0);
    }

    private static void givenAtFirst() {
        Check.sentence("GIVEN: all but the bits of the STACK and of x1, x3 to x31");
        Renewed host = new Renewed();
        for (int k = 0; k < 32; k++) {
            Check.due("x" + k, host.unknown(k), k == 0 || k == 2 ? 0 : -1);
        }
        for (int at : new int[] {0, 16383, 16384, 32767, 32768, 57343}) {
            Check.due("octet " + at, host.memory(at) & SHUT_UNGIVEN, 0);
        }
        for (int at : new int[] {57344, 60000, 65535}) {
            Check.due("octet " + at, host.memory(at), OPEN_UNGIVEN);
        }
    }

    /** What is not GIVEN of one INSTRUCTION 0x33, with what is not of its A and B. */
    private static void shadow(int g, int f, int a, int notA, int b, int notB, int want) {
        Renewed host = new Asm().mixed(5, a, notA).mixed(6, b, notB).word(Asm.r(g, f, 7, 5, 6)).after(13);
        Check.due("G " + g + " F " + f + " of " + a + " not " + notA + ", " + b + " not " + notB, host.unknown(7), want);
    }

    private static void immediate(int f, int a, int notA, int number, int want) {
        Renewed host = new Asm().mixed(5, a, notA).word(Asm.i(0x13, f, 7, 5, number)).after(7);
        Check.due("0x13 F " + f + " of " + a + " not " + notA + ", " + number, host.unknown(7), want);
    }

    private static void sums() {
        Check.sentence("+ - : not from the lowest bit on that is not GIVEN in one of both");
        for (int g = 0; g <= 0x20; g += 0x20) {
            for (int bit = 0; bit < 32; bit++) {
                shadow(g, 0, 0, 1 << bit, 0, 0, -1 << bit);
                shadow(g, 0, -1, 0, 5, 1 << bit, -1 << bit);
            }
            shadow(g, 0, 0, 0x10, 0, 0x100, -0x10);
            shadow(g, 0, 0, 0x100, 0, 0x10, -0x10);
            shadow(g, 0, 0, 0x80000010, 0, 0, -0x10);
            shadow(g, 0, 7, 0, 9, 0, 0);
            shadow(g, 0, 7, MIN, 9, MIN, MIN);
        }
        immediate(0, 0, 8, 0, -8);
        immediate(0, 0, MIN, -1, MIN);
        immediate(0, 0, -1, 0, -1);
    }

    private static void ands() {
        Check.sentence("and: not where one is not GIVEN, unless the other one is GIVEN as 0 there");
        // From bit to bit one goes GIVEN 0, GIVEN 1, not GIVEN 0, not GIVEN 1, the other one so from four bits to four.
        // Against GIVEN 0: none; GIVEN 1: where the first is not; not GIVEN: all but where the first is GIVEN 0.
        int want = 0 | 0xC << 4 | 0xE << 8 | 0xE << 12;
        shadow(0, 7, 0xAAAA, 0xCCCC, 0xF0F0, 0xFF00, want);
        shadow(0, 7, 0xF0F0, 0xFF00, 0xAAAA, 0xCCCC, want);
        immediate(7, 0, -1, 0, 0);
        immediate(7, 0, -1, -1, -1);
        immediate(7, 0, -1, 0x7FF, 0x7FF);
        immediate(7, -1, -1, -2048, -2048);
    }

    private static void ors() {
        Check.sentence("or: likewise as 1");
        // As above. Against GIVEN 0: where the first is not; GIVEN 1: none; not GIVEN: all but where the first is GIVEN 1.
        int want = 0xC | 0 << 4 | 0xD << 8 | 0xD << 12;
        shadow(0, 6, 0xAAAA, 0xCCCC, 0xF0F0, 0xFF00, want);
        shadow(0, 6, 0xF0F0, 0xFF00, 0xAAAA, 0xCCCC, want);
        immediate(6, 0, -1, 0, -1);
        immediate(6, 0, -1, -1, 0);
        immediate(6, -1, -1, 0x7FF, -2048);
        immediate(6, 0, -1, -2048, 0x7FF);
    }

    private static void exclusiveOrs() {
        Check.sentence("exclusive or: where one is not");
        shadow(0, 4, 0xAAAA, 0xCCCC, 0xF0F0, 0xFF00, 0xFFCC);
        shadow(0, 4, -1, 1, -1, MIN, MIN + 1);
        immediate(4, 5, 0x80000001, -1, 0x80000001);
        Renewed same = new Asm().word(Asm.r(0, 4, 7, 8, 8)).after(1);
        Check.due("of a register with itself, too", same.unknown(7), -1);
    }

    private static void shifts() {
        Check.sentence("shifts: as the bits of A go (what comes in as 0 is GIVEN; the sign as it is)");
        int[] by = {0, 1, 31, 32, 33};
        int[] left = {0x80000003, 6, MIN, 0x80000003, 6};
        int[] right = {0x80000003, 0x40000001, 1, 0x80000003, 0x40000001};
        int[] signed = {0x80000003, 0xC0000001, -1, 0x80000003, 0xC0000001};
        for (int k = 0; k < by.length; k++) {
            shadow(0, 1, 0, 0x80000003, by[k], 0, left[k]);
            shadow(0, 5, 0, 0x80000003, by[k], 0, right[k]);
            shadow(0x20, 5, 0, 0x80000003, by[k], 0, signed[k]);
            if (by[k] < 32) {
                immediate(1, 0, 0x80000003, by[k], left[k]);
                immediate(5, 0, 0x80000003, by[k], right[k]);
                immediate(5, 0, 0x80000003, 0x400 | by[k], signed[k]);
            }
        }
        shadow(0x20, 5, MIN, 0x7FFFFFFF, 31, 0, 0);
        shadow(0x20, 5, MIN, 0x7FFFFFFF, 4, 0, 0x07FFFFFF);
        shadow(0, 1, -1, -1, 31, 0, MIN);
        shadow(0, 5, -1, -1, 31, 0, 1);
    }

    private static void shiftsByUngiven() {
        Check.sentence("all not if one of the lowest 5 bits of B is not GIVEN");
        int[][] kinds = {{0, 1}, {0, 5}, {0x20, 5}};
        for (int[] kind : kinds) {
            for (int bit = 0; bit < 32; bit++) {
                shadow(kind[0], kind[1], 0, 0, 0, 1 << bit, bit < 5 ? -1 : 0);
            }
            shadow(kind[0], kind[1], 1, 8, 0, -32, 8);
            shadow(kind[0], kind[1], 0, 0, 3, 0x10, -1);
        }
    }

    private static void below() {
        Check.sentence("below: bit 0 is not if any bit of both is not");
        for (int f = 2; f <= 3; f++) {
            for (int bit = 0; bit < 32; bit++) {
                shadow(0, f, 0, 1 << bit, 0, 0, 1);
                shadow(0, f, 0, 0, 0, 1 << bit, 1);
            }
            shadow(0, f, 5, -1, 6, -1, 1);
            shadow(0, f, 5, 0, 6, 0, 0);
            immediate(f, 0, MIN, -1, 1);
            immediate(f, 5, 0, -1, 0);
        }
    }

    private static void products() {
        Check.sentence("G 1: none if any is not");
        for (int f = 0; f < 8; f++) {
            shadow(1, f, 0, 1, 0, 0, -1);
            shadow(1, f, 0, MIN, 1, 0, -1);
            shadow(1, f, 0, 0, 0, 1, -1);
            shadow(1, f, 4, 0, 4, MIN, -1);
            shadow(1, f, 4, 0, 0, 0, 0);
            shadow(1, f, MIN, 0, -1, 0, 0);
        }
    }

    private static void reading() {
        Check.sentence("reading: as they lie there");
        // At 65528 lie four octets with the shadows 0x01, 0x00, 0x80, 0x7E.
        int[] f = {0, 1, 2, 4, 5};
        int[][] want = {{1, 1, 0x7E800001, 1, 1}, {0, 0xFFFF8000, 0, 0, 0x8000}, {-128, 0x7E80, 0, 0x80, 0x7E80}, {0x7E, 0, 0, 0x7E, 0}};
        for (int octet = 0; octet < 4; octet++) {
            for (int k = 0; k < f.length; k++) {
                boolean inside = octet + (1 << (f[k] & 3)) <= 4;
                Renewed host = new Asm().mixed(5, 0x12345678, 0x7E800001).words(Asm.store(2, 5, 2, -8), Asm.load(f[k], 6, 2, octet - 8)).after(8);
                if (inside) {
                    Check.due("F " + f[k] + " of octet " + octet, host.unknown(6), want[octet][k]);
                }
                Check.due("no ERROR", host.count(5), 0);
            }
        }
        Renewed stack = new Asm().words(Asm.addi(6, 0, 1), Asm.load(2, 6, 2, -4)).after(2);
        Check.due("the STACK", stack.unknown(6), -1);
        Check.due("the IMAGE", new Asm().word(Asm.load(2, 6, 0, 0)).after(1).unknown(6), 0);
    }

    private static void readingShut() {
        Check.sentence("(octets that are not OPEN: all GIVEN)");
        Renewed host = new Asm().li(5, 20000).words(Asm.store(2, 31, 5, 0), Asm.load(2, 6, 5, 0), Asm.load(0, 7, 5, 0), Asm.load(1, 8, 5, 2),
                Asm.load(4, 9, 5, 0), Asm.load(5, 10, 5, 0)).after(8);
        Check.due("they lie there as not GIVEN", host.memory(20000), SHUT_UNGIVEN);
        for (int k = 6; k <= 10; k++) {
            Check.due("read into x" + k, host.unknown(k), 0);
        }
        // Of four octets the lower k are not OPEN.
        int[] want = {-1, 0xFFFFFF00, 0xFFFF0000, 0xFF000000, 0};
        for (int k = 0; k <= 4; k++) {
            Renewed edge = new Asm().li(5, 57344 - k).words(Asm.store(2, 31, 5, 0), Asm.load(2, 6, 5, 0)).after(4);
            Check.due(k + " of four are not OPEN", edge.unknown(6), want[k]);
        }
        Renewed upper = new Asm().li(5, 16382).words(Asm.store(2, 31, 5, 0), Asm.load(2, 6, 5, 0), Asm.load(1, 7, 5, 1), Asm.load(1, 8, 5, 0))
                .after(6);
        Check.due("the upper two are not OPEN", upper.unknown(6), 0xFFFF);
        Check.due("the sign is of one that is not OPEN", upper.unknown(7), 0xFF);
        Check.due("the sign is of one that is OPEN", upper.unknown(8), -1);
    }

    private static void signs() {
        Check.sentence("the sign as it is");
        int[] shadows = {0x80, 0x7F, 0x8000, 0x7FFF};
        int[] octet = {-128, 0x7F, 0, -1};
        int[] two = {0x80, 0x7F, 0xFFFF8000, 0x7FFF};
        for (int k = 0; k < 4; k++) {
            Renewed host = new Asm().mixed(5, -1, shadows[k]).words(Asm.store(2, 5, 2, -4), Asm.load(0, 6, 2, -4), Asm.load(1, 7, 2, -4),
                    Asm.load(4, 8, 2, -4), Asm.load(5, 9, 2, -4)).after(11);
            Check.due("one octet, " + shadows[k], host.unknown(6), octet[k]);
            Check.due("two octets, " + shadows[k], host.unknown(7), two[k]);
            Check.due("one octet without sign", host.unknown(8), shadows[k] & 255);
            Check.due("two octets without sign", host.unknown(9), shadows[k]);
        }
    }

    private static void numbersAreGiven() {
        Check.sentence("I and PC are GIVEN");
        Renewed host = new Asm().words(Asm.addi(5, 0, -1), Asm.lui(6, 4096), Asm.auipc(7, 4096), Asm.jal(8, 4), Asm.jalr(9, 31, 20),
                Asm.i(0x13, 4, 10, 5, 3), Asm.i(0x13, 5, 11, 5, 3)).after(7);
        for (int k = 5; k <= 11; k++) {
            Check.due("x" + k, host.unknown(k), 0);
        }
        Check.due("though A was not", host.error(0, 0), 3);
        Check.due("it went on", host.count(2), 28);
    }

    private static void storing() {
        Check.sentence("Storing: the bits of B that are not GIVEN lie there so");
        int[] shadow = {0x01, 0x00, 0x80, 0xFF};
        for (int f = 0; f <= 2; f++) {
            Renewed host = new Asm().mixed(5, 0x84838281, 0xFF800001).words(Asm.store(f, 5, 0, 2000), Asm.store(f, 5, 2, -6)).after(8);
            for (int i = 0; i < 4; i++) {
                boolean stored = i < 1 << f;
                Check.due("F " + f + ", octet " + i, host.memory(2000 + i), stored ? 65536 + shadow[i] * 256 + 0x81 + i : 65536);
                Check.due("F " + f + ", octet " + i + " of the STACK", host.memory(65530 + i),
                        stored ? 65536 + shadow[i] * 256 + 0x81 + i : OPEN_UNGIVEN);
            }
            Check.due("no ERROR", host.count(5), 0);
        }
        Renewed again = new Asm().words(Asm.store(2, 31, 0, 2000), Asm.store(1, 0, 0, 2001)).after(2);
        Check.due("stored GIVEN again: before it", again.memory(2000), OPEN_UNGIVEN);
        Check.due("stored GIVEN again", again.memory(2001), 65536);
        Check.due("stored GIVEN again: behind it", again.memory(2003), OPEN_UNGIVEN);
    }

    private static void storingShut() {
        Check.sentence("also in octets that are not OPEN (what is read or stored there is read and stored all the same)");
        Renewed host = new Asm().mixed(5, 0x84838281, 0xFF800001).li(6, 30000).words(Asm.store(2, 5, 6, 0), Asm.load(2, 7, 6, 0)).after(10);
        int[] shadow = {0x01, 0x00, 0x80, 0xFF};
        for (int i = 0; i < 4; i++) {
            Check.due("octet " + i, host.memory(30000 + i), shadow[i] * 256 + 0x81 + i);
        }
        Check.due("read", host.register(7), 0x84838281);
        Check.due("it went on", host.count(0), 0);
        Check.due("ERRORS 4", host.count(5), 2);
        Renewed edge = new Asm().mixed(5, 0x84838281, -1).li(6, 16382).word(Asm.store(2, 5, 6, 0)).after(9);
        Check.due("the last of the IMAGE", edge.memory(16383), OPEN_UNGIVEN + 0x82);
        Check.due("the first behind it", edge.memory(16384), SHUT_UNGIVEN + 0x83);
    }
}
