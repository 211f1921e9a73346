/** A small assembler: words one behind the other, then put into a host as its IMAGE. */
final class Asm {
    static final int CALL = 0x73;
    static final int BREAK = 0x100073;

    private final int[] words = new int[4096];
    private int size = 0;

    /** Where the next word will stand. */
    int here() {
        return size * 4;
    }

    Asm word(int w) {
        words[size++] = w;
        return this;
    }

    Asm words(int... all) {
        for (int w : all) {
            word(w);
        }
        return this;
    }

    /** Goes on at this address, zeros between. */
    Asm at(int address) {
        size = address / 4;
        return this;
    }

    /** Any number into d, always by two words. */
    Asm li(int d, int number) {
        int upper = (number + 0x800) & 0xFFFFF000;
        return word(lui(d, upper)).word(i(0x13, 0, d, d, number - upper));
    }

    /** A number into d of which just the bits of the mask are not GIVEN; x31 never was, x29 and x30 are used up. */
    Asm mixed(int d, int number, int mask) {
        return li(30, mask).word(r(0, 7, 29, 31, 30)).li(d, number).word(r(0, 4, d, d, 29));
    }

    /** A CALL by its number, with x10 as it is. */
    Asm call(int which) {
        return word(addi(17, 0, which)).word(CALL);
    }

    Asm call(int which, int x10) {
        return li(10, x10).call(which);
    }

    Asm call(int which, int x10, int x11) {
        return li(11, x11).call(which, x10);
    }

    /** Octet at of the IMAGE that this makes. */
    int octet(int at) {
        return words[at / 4] >>> 8 * (at % 4) & 255;
    }

    Renewed into(Renewed host) {
        int end = 0;
        for (int k = 0; k < words.length; k++) {
            end = words[k] != 0 ? k + 1 : end;
        }
        for (int k = 0; k < end; k += 2) {
            host.image(k * 4, pair(k));
        }
        host.begin();
        return host;
    }

    private long pair(int k) {
        return (words[k] & 0xFFFFFFFFL) | (long) words[k + 1] << 32;
    }

    /** A new host, whose IMAGE is 0 already where this has zeros. */
    Renewed host() {
        Renewed host = new Renewed();
        for (int k = 0; k < words.length; k += 2) {
            if (pair(k) != 0) {
                host.image(k * 4, pair(k));
            }
        }
        host.begin();
        return host;
    }

    /** A new host that has done n INSTRUCTIONS of this program. */
    Renewed after(int n) {
        Renewed host = host();
        host.run(n);
        return host;
    }

    /** A new host that has done this program to its end, or 100000 INSTRUCTIONS of it. */
    Renewed done() {
        Renewed host = host();
        host.run(100000);
        return host;
    }

    static int r(int g, int f, int d, int a, int b) {
        return g << 25 | b << 20 | a << 15 | f << 12 | d << 7 | 0x33;
    }

    static int i(int op, int f, int d, int a, int number) {
        return number << 20 | a << 15 | f << 12 | d << 7 | op;
    }

    static int addi(int d, int a, int number) {
        return i(0x13, 0, d, a, number);
    }

    static int load(int f, int d, int a, int number) {
        return i(0x03, f, d, a, number);
    }

    static int store(int f, int b, int a, int number) {
        return (number >> 5) << 25 | b << 20 | a << 15 | f << 12 | (number & 31) << 7 | 0x23;
    }

    static int branch(int f, int a, int b, int offset) {
        return (offset >> 12 & 1) << 31 | (offset >> 5 & 63) << 25 | b << 20 | a << 15 | f << 12
                | (offset >> 1 & 15) << 8 | (offset >> 11 & 1) << 7 | 0x63;
    }

    static int lui(int d, int number) {
        return (number & 0xFFFFF000) | d << 7 | 0x37;
    }

    static int auipc(int d, int number) {
        return (number & 0xFFFFF000) | d << 7 | 0x17;
    }

    static int jal(int d, int offset) {
        return (offset >> 20 & 1) << 31 | (offset >> 1 & 1023) << 21 | (offset >> 11 & 1) << 20
                | (offset & 0xFF000) | d << 7 | 0x6F;
    }

    static int jalr(int d, int a, int number) {
        return i(0x67, 0, d, a, number);
    }
}
