/** Promise 10: output, and CALL 5 that puts out. */
public final class OutputTest {
    public static void main(String[] args) {
        Renewed host = new Asm().call(5, 0x12345678).call(5, -1).call(5, 0).word(Asm.BREAK).done();
        Check.due("three", host.count(6), 3);
        Check.due("the lowest octet", host.output(0), 0x78);
        Check.due("without sign", host.output(1), 255);
        Check.due("zero", host.output(2), 0);
        Check.due("x10 stays", host.register(10), 0);
        for (int k : new int[] {-1, 3, 4096, Integer.MIN_VALUE, Integer.MAX_VALUE}) {
            Check.outOfBounds("output(" + k + ")", () -> host.output(k));
        }
        stays();
        many();
        Check.finish();
    }

    private static void stays() {
        Renewed host = new Asm().call(5).word(Asm.BREAK).done();
        Check.due("x10 is not GIVEN as before", host.unknown(10), -1);
        Check.due("put out all the same", host.output(0), 0);
    }

    private static void many() {
        Renewed host = new Asm().words(Asm.addi(17, 0, 5), Asm.addi(10, 0, 0), Asm.CALL, Asm.addi(10, 10, 1), Asm.jal(0, -8)).host();
        host.run(2 + 3 * 4095);
        Check.due("4095", host.count(6), 4095);
        host.run(3);
        Check.due("4096", host.count(6), 4096);
        host.run(300);
        Check.due("more are lost", host.count(6), 4096);
        Check.due("it goes on", host.register(10), 4196);
        for (int k : new int[] {0, 1, 255, 256, 4095}) {
            Check.due("output(" + k + ")", host.output(k), k & 255);
        }
        Check.outOfBounds("output(4096)", () -> host.output(4096));
    }
}
