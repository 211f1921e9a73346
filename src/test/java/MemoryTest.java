/** Promise 8: memory. */
public final class MemoryTest {
    public static void main(String[] args) {
        Renewed host = new Renewed();
        for (int at : new int[] {-1, 65536, Integer.MIN_VALUE, Integer.MAX_VALUE}) {
            Check.outOfBounds("memory(" + at + ")", () -> host.memory(at));
        }
        int[][] edges = {{0, 65536}, {16383, 65536}, {16384, 0}, {32767, 0}, {32768, 0}, {57343, 0}, {57344, 130816}, {65535, 130816}};
        for (int[] edge : edges) {
            Check.due("memory(" + edge[0] + ")", host.memory(edge[0]), edge[1]);
        }
        stores();
        Check.finish();
    }

    private static void stores() {
        // x5 is 0x00FF and not GIVEN in the bits 4 to 11.
        Asm asm = new Asm().li(6, 0xFF0).words(Asm.r(0, 7, 5, 31, 6), Asm.i(0x13, 4, 5, 5, 255), Asm.store(1, 5, 0, 2000));
        Renewed host = asm.li(7, 30000).words(Asm.store(2, 5, 7, 0), Asm.store(2, 0, 2, -4)).host();
        host.run(9);
        Check.due("the octet with its shadow", host.memory(2000), 65536 + 0xF0 * 256 + 255);
        Check.due("the next octet", host.memory(2001), 65536 + 0x0F * 256);
        Check.due("not more", host.memory(2002), 65536);
        Check.due("not OPEN, and stored all the same", host.memory(30000), 0xF0 * 256 + 255);
        Check.due("its shadow too", host.memory(30001), 0x0F * 256);
        Check.due("what is stored as GIVEN is GIVEN", host.memory(65532), 65536);
        Check.due("the octet before is not", host.memory(65531), 130816);
        Check.due("ERROR 4 alone", host.count(5), 1);
    }
}
