import java.util.Arrays;
import java.util.Random;

/** Promises 1 to 11 by many programs, each done by the program and by Model, which must agree in all they tell. */
public final class AgainstModelTest {
    private static final int PROGRAMS = 1500;
    private static final int[] REGISTERS = {0, 1, 2, 5, 6, 7, 8, 9, 10, 10, 11, 17, 18, 19, 31};
    private static final int[] SIZES = {0, 1, 3, 4, 8, 16, 17, 40, 100, 500, 1000, 2048, 2049, 3000, 9000, 16384, 16385, -1};

    private final Random random;
    private final Renewed host = new Renewed();
    private final Model model = new Model();
    private int errorsSeen = 0;
    private int octetsSeen = 0;

    private AgainstModelTest(long seed) {
        random = new Random(seed);
    }

    public static void main(String[] args) {
        int[] ends = new int[3];
        int[] traps = new int[4];
        int[] errors = new int[9];
        for (int seed = 0; seed < PROGRAMS; seed++) {
            AgainstModelTest test = new AgainstModelTest(seed);
            test.program(seed);
            ends[test.model.ended]++;
            if (test.model.ended == 2) {
                traps[test.model.result]++;
            }
            for (int[] row : test.model.told) {
                errors[row[0]]++;
            }
        }
        System.out.println("ends " + Arrays.toString(ends) + ", TRAPS " + Arrays.toString(traps) + ", ERRORS "
                + Arrays.toString(errors));
        // The programs are of no use if they do not come everywhere.
        for (int k = 0; k < 3; k++) {
            Check.due("programs that end with " + k + " are some", ends[k] > 10 ? 1 : 0, 1);
        }
        for (int k = 0; k < 4; k++) {
            Check.due("TRAPS " + k + " are some", traps[k] > 3 ? 1 : 0, 1);
        }
        for (int k = 1; k < 9; k++) {
            Check.due("ERRORS " + k + " are some", errors[k] > 10 ? 1 : 0, 1);
        }
        Check.finish();
    }

    private void program(int seed) {
        Asm asm = new Asm();
        int size = 50 + random.nextInt(400);
        if (random.nextInt(4) != 0) {
            asm.call(2, 20).word(Asm.addi(18, 10, 0)).call(2, 60).word(Asm.addi(19, 10, 0));
        }
        while (asm.here() < size * 4) {
            piece(asm, seed % 5);
        }
        asm.call(1, random.nextInt(100));
        asm.into(host);
        for (int at = 0; at < 16384; at++) {
            model.image[at] = asm.octet(at);
        }
        model.begin();
        for (int n = random.nextInt(6); n > 0; n--) {
            long w = random.nextLong();
            int octets = 1 + random.nextInt(8);
            host.input(w, octets);
            for (int i = 0; i < octets; i++) {
                model.in.add((int) (w >>> 8 * i & 255));
            }
        }
        for (int n : new int[] {1, 7, 50, 100, 300, 1500}) {
            Check.due(seed + ": run(" + n + ")", host.run(n), model.run(n));
            same(seed);
        }
        sameMemory(seed, asm.here());
    }

    /** Both sides of each place behind the program where MEMORY changes, and some octets of all. */
    private void sameMemory(int seed, int from) {
        for (int at = from; at < 65536; at++) {
            if (model.memory(at) != model.memory(at - 1)) {
                Check.due(seed + ": memory(" + (at - 1) + ")", host.memory(at - 1), model.memory(at - 1));
                Check.due(seed + ": memory(" + at + ")", host.memory(at), model.memory(at));
            }
        }
        for (int i = 0; i < 100; i++) {
            int at = random.nextInt(i < 50 ? 65536 : from);
            Check.due(seed + ": memory(" + at + ")", host.memory(at), model.memory(at));
        }
    }

    private void same(int seed) {
        for (int what = 0; what <= 10; what++) {
            Check.due(seed + ": count(" + what + ")", host.count(what), model.count(what));
        }
        for (int k = 0; k < 32; k++) {
            Check.due(seed + ": register(" + k + ")", host.register(k), model.x[k]);
            Check.due(seed + ": unknown(" + k + ")", host.unknown(k), model.unknown(k));
        }
        // Those of before do not change, and would cost many calls.
        for (; errorsSeen < Math.min(host.count(4), model.told.size()); errorsSeen++) {
            Check.error(seed + "", host, errorsSeen, model.told.get(errorsSeen));
        }
        for (; octetsSeen < Math.min(host.count(6), model.out.size()); octetsSeen++) {
            Check.due(seed + ": output(" + octetsSeen + ")", host.output(octetsSeen), model.out.get(octetsSeen));
        }
    }

    private int any() {
        return REGISTERS[random.nextInt(REGISTERS.length)];
    }

    /** A register for D: x2 stays, most times, so that the STACK is reached. */
    private int target() {
        int d = any();
        return d == 2 && random.nextInt(100) != 0 ? 9 : d;
    }

    private void piece(Asm asm, int kind) {
        int dice = random.nextInt(100);
        if (dice < 25) {
            asm.word(Asm.r(new int[] {0, 0, 0, 1}[random.nextInt(4)], random.nextInt(8), target(), any(), any()));
        } else if (dice < 35) {
            asm.word(immediate());
        } else if (dice < 40) {
            asm.li(target(), number());
        } else if (dice < 55) {
            access(asm, kind);
        } else if (dice < 62) {
            asm.word(Asm.branch(new int[] {0, 1, 4, 5, 6, 7}[random.nextInt(6)], any(), any(), 4 + 4 * random.nextInt(4)));
        } else if (dice < 68) {
            jump(asm);
        } else if (dice < 94) {
            block(asm, kind);
        } else if (dice < 98) {
            asm.call(5 + random.nextInt(3));
        } else {
            rare(asm, kind);
        }
    }

    private int immediate() {
        int f = random.nextInt(8);
        int number = f == 1 ? random.nextInt(32) : f == 5 ? random.nextInt(2) << 10 | random.nextInt(32) : random.nextInt(4096);
        return Asm.i(0x13, f, target(), any(), number);
    }

    private int number() {
        int[] some = {0, 1, -1, Integer.MIN_VALUE, random.nextInt(), random.nextInt(65536), 32784 + random.nextInt(3000),
            57344 + random.nextInt(8192), 8192 + random.nextInt(8192), 16380 + random.nextInt(8)};
        return some[random.nextInt(some.length)];
    }

    /** Most addresses are cut to those of MEMORY: a program that has a TRAP soon shows little. */
    private int within(Asm asm, int base, int kind) {
        if (base == 2 || kind == 1) {
            return base;
        }
        asm.li(7, 65472).words(Asm.r(0, 7, 6, base, 7), Asm.i(0x13, 6, 6, 6, 16));
        return 6;
    }

    private void access(Asm asm, int kind) {
        int base = random.nextInt(3) == 0 ? 2 : 18 + random.nextInt(2);
        int offset = base == 2 ? -4 - random.nextInt(64) : random.nextInt(44) - 2;
        offset = random.nextInt(3) == 0 ? offset : offset & -4;
        if (random.nextInt(4) == 0) {
            asm.li(5, number());
            base = 5;
            offset = 0;
        }
        base = within(asm, base, kind);
        if (random.nextBoolean()) {
            asm.word(Asm.load(new int[] {0, 1, 2, 2, 4, 5}[random.nextInt(6)], target(), base, offset));
        } else {
            asm.word(Asm.store(new int[] {0, 1, 2, 2}[random.nextInt(4)], any(), base, offset));
        }
    }

    private void jump(Asm asm) {
        switch (random.nextInt(5)) {
            case 0: asm.word(Asm.jal(1, 4 + 4 * random.nextInt(2))); break;
            case 1: asm.words(Asm.auipc(1, 0), Asm.jalr(random.nextInt(2) * 9, 1, 8)); break;
            case 2: asm.words(Asm.auipc(6, 0), Asm.jalr(random.nextInt(2), 6, 9)); break;
            case 3:
                // There and back again; there it may be that nothing, a half or all is OPEN.
                asm.li(5, random.nextBoolean() ? 20000 : 32784 + 4 * random.nextInt(16)).li(6, Asm.jalr(0, 1, 0));
                asm.words(Asm.store(2, 6, 5, 0), Asm.jalr(1, 5, 0));
                break;
            default: asm.words(Asm.auipc(6, 0), Asm.i(0x13, 7, 7, 31, 0), Asm.r(0, 6, 6, 6, 7), Asm.jalr(1, 6, 16)); break;
        }
    }

    private void block(Asm asm, int kind) {
        int n = kind == 0 ? SIZES[random.nextInt(8)] : SIZES[random.nextInt(SIZES.length)];
        int holder = 18 + random.nextInt(2);
        switch (random.nextInt(6)) {
            case 0:
            case 1: asm.call(2, n).word(Asm.addi(holder, 10, 0)); break;
            case 2: asm.call(2, n).word(Asm.store(2, 10, within(asm, holder, kind), 4 * random.nextInt(4))); break;
            case 3: asm.call(2, n).word(Asm.store(2, 10, 2, -4 - 4 * random.nextInt(8))); break;
            case 4: asm.word(Asm.addi(10, holder, random.nextInt(10) == 0 ? 16 : 0)).call(3); break;
            default: asm.li(11, n).word(Asm.addi(10, random.nextInt(8) == 0 ? 0 : holder, 0)).call(4).word(Asm.addi(holder, 10, 0)); break;
        }
    }

    private void rare(Asm asm, int kind) {
        switch (random.nextInt(kind == 1 ? 7 : 3)) {
            case 0: asm.li(10, random.nextInt(16)).word(Asm.addi(17, 10, 0)).word(Asm.CALL); break;
            case 1: asm.word(Asm.CALL); break;
            case 2: asm.word(0x0F); break;
            case 3: asm.word(random.nextInt()); break;
            case 4: asm.word(Asm.BREAK); break;
            case 5: asm.word(Asm.jalr(0, any(), random.nextInt(64))); break;
            default: asm.word(Asm.jal(random.nextInt(2), -4 * random.nextInt(20))); break;
        }
    }
}
