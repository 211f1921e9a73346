/** Promise 4: begin makes all anew. */
public final class BeginTest {
    public static void main(String[] args) {
        Asm asm = new Asm().call(2, 40).word(Asm.addi(8, 10, 0)).call(2, 24).call(3).call(5, 65)
                .word(Asm.jal(1, 4)).word(Asm.load(2, 6, 7, 100)).word(Asm.store(2, 6, 2, -4))
                .call(2, 0).call(1, 9);
        Renewed host = asm.host();
        Check.due("EXIT", host.run(1000), 1);
        Check.due("KEPT", host.count(8), 1);
        Check.due("put out", host.count(6), 1);
        Check.due("RETURNS", host.count(10), 1);
        int[] before = all(host);
        host.begin();
        Check.due("MEMORY of THE HEAP is 0", host.memory(32784), 0);
        Check.due("the STACK is not GIVEN", host.memory(65532), 65536 + 255 * 256);
        for (int what = 0; what <= 10; what++) {
            Check.due("count(" + what + ")", host.count(what), 0);
        }
        for (int k = 0; k < 32; k++) {
            Check.due("register(" + k + ")", host.register(k), k == 2 ? 65536 : 0);
            Check.due("unknown(" + k + ")", host.unknown(k), k == 0 || k == 2 ? 0 : -1);
        }
        Check.outOfBounds("no ERROR", () -> host.error(0, 0));
        Check.outOfBounds("no octet", () -> host.output(0));
        Check.due("it goes on again", host.run(1000), 1);
        int[] after = all(host);
        for (int i = 0; i < before.length; i++) {
            Check.due("the same once more, " + i, after[i], before[i]);
        }
        noBlocks();
        Check.finish();
    }

    /** No BLOCK of before is LIVE or KEPT, nor are its octets counted with those that are KEPT. */
    private static void noBlocks() {
        Renewed host = new Asm().call(2, 2000).word(Asm.addi(18, 10, 0)).call(2, 8).word(Asm.addi(10, 18, 0)).call(3)
                .word(Asm.BREAK).done();
        Check.due("LIVE", host.count(7), 1);
        Check.due("KEPT", host.count(8), 1);
        new Asm().call(2, 100).call(3).call(3, 32784 + 2016).word(Asm.BREAK).into(host).run(100);
        Check.due("TRAP 3", host.count(1), 3);
        Check.due("LIVE", host.count(7), 0);
        Check.due("KEPT", host.count(8), 1);
        Check.error("no BLOCK there", host, 0, 7, 36, 32784 + 2016);
        new Asm().call(3, 32784).call(3, 32784 + 2016).word(Asm.BREAK).into(host).run(100);
        Check.error("no KEPT one there", host, 0, 7, 12, 32784);
        Check.error("no LIVE one there", host, 1, 7, 28, 32784 + 2016);
    }

    private static int[] all(Renewed host) {
        int[] all = new int[11 + 64 + 65536 + 420];
        int n = 0;
        for (int what = 0; what <= 10; what++) {
            all[n++] = host.count(what);
        }
        for (int k = 0; k < 32; k++) {
            all[n++] = host.register(k);
            all[n++] = host.unknown(k);
        }
        for (int at = 0; at < 65536; at++) {
            all[n++] = host.memory(at);
        }
        for (int k = 0; k < host.count(4); k++) {
            for (int what = 0; what < 7; what++) {
                all[n++] = host.error(k, what);
            }
        }
        return all;
    }
}
