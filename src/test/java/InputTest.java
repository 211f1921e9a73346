/** Promise 3: input, and CALL 6 that reads it. */
public final class InputTest {
    public static void main(String[] args) {
        readsInOrder();
        wrongInputs();
        Check.finish();
    }

    /** A loop of CALL 6, which stores each answer's lowest octet at 1024 on. */
    private static Asm reader() {
        return new Asm().word(Asm.addi(17, 0, 6)).word(Asm.addi(5, 0, 1024))
                .word(Asm.CALL).word(Asm.store(0, 10, 5, 0)).word(Asm.addi(5, 5, 1)).word(Asm.jal(0, -12));
    }

    private static void readsInOrder() {
        Renewed host = reader().host();
        Check.due("one octet", host.input(0xFFEEL, 1), 1);
        Check.due("behind it eight", host.input(0x0807060504030201L, 8), 9);
        host.run(3);
        Check.due("the first octet", host.register(10), 0xEE);
        Check.due("all GIVEN", host.unknown(10), 0);
        host.run(4 * 9 - 4);
        Check.due("the ninth octet", host.register(10), 8);
        host.run(4);
        Check.due("no more", host.register(10), -1);
        Check.due("-1 is GIVEN", host.unknown(10), 0);
        Check.due("put in while it runs", host.input(0x80L, 2), 11);
        host.run(4);
        Check.due("read at once, without sign", host.register(10), 0x80);
        host.run(4);
        Check.due("the zero behind it", host.register(10), 0);
        host.begin();
        host.run(3);
        Check.due("from the first octet on again", host.register(10), 0xEE);
        Check.due("what was put in stays", host.input(0L, 1), 12);
    }

    private static void wrongInputs() {
        Renewed host = reader().host();
        for (int n : new int[] {0, 9, -1, 16, Integer.MIN_VALUE, Integer.MAX_VALUE}) {
            Check.illegal("input(1, " + n + ")", () -> host.input(1L, n));
        }
        for (int i = 0; i < 127; i++) {
            Check.due("input", host.input(i, 8), 8 * i + 8);
        }
        Check.due("up to 1019", host.input(0x333333L, 3), 1019);
        Check.outOfBounds("1025", () -> host.input(-1L, 6));
        Check.due("1024", host.input(0x5544332211L, 5), 1024);
        Check.outOfBounds("one more", () -> host.input(-1L, 1));
        Check.illegal("the wrong n is named first", () -> host.input(-1L, 9));
        host.run(2 + 4 * 1025);
        for (int i = 0; i < 5; i++) {
            Check.due("none of the refused ones", host.memory(1024 + 1019 + i), 65536 + 0x11 * (i + 1));
        }
        Check.due("then none", host.memory(2048), 65536 + 255);
    }
}
