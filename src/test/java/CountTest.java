/** Promise 11: count. */
public final class CountTest {
    public static void main(String[] args) {
        Renewed host = new Asm().call(2, 100).word(Asm.addi(8, 10, 0)).call(2, 30).call(3).call(5, 1).call(5, 2)
                .words(Asm.jal(1, 4), Asm.branch(0, 31, 0, 4), Asm.branch(0, 31, 0, 4)).call(2, 5).call(1, 77).host();
        for (int what : new int[] {-1, 11, Integer.MIN_VALUE, Integer.MAX_VALUE}) {
            Check.illegal("count(" + what + ")", () -> host.count(what));
        }
        Check.due("run", host.run(1000), 1);
        int[] want = {1, 77, 29 * 4, 30, 3, 3, 2, 2, 1, 105, 1};
        for (int what = 0; what <= 10; what++) {
            Check.due("count(" + what + ")", host.count(what), want[what]);
        }
        Renewed zero = new Asm().call(1, 0).done();
        Check.due("EXIT with 0", zero.count(1), 0);
        Check.due("is an EXIT", zero.count(0), 1);
        Renewed trap = new Asm().li(5, 65536).word(Asm.load(2, 6, 5, 0)).done();
        Check.due("TRAP", trap.count(0), 2);
        Check.due("which", trap.count(1), 2);
        Check.due("done without it", trap.count(3), 2);
        Check.finish();
    }
}
