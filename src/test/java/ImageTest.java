/** Promise 2: image. */
public final class ImageTest {
    public static void main(String[] args) {
        Renewed host = new Renewed();
        host.image(0, 0x8877665544332211L);
        host.image(16376, -2L);
        Check.due("nothing comes before begin()", host.memory(0), 65536);
        host.begin();
        for (int i = 0; i < 8; i++) {
            Check.due("memory(" + i + ")", host.memory(i), 65536 + 0x11 * (i + 1));
            Check.due("memory(" + (16376 + i) + ")", host.memory(16376 + i), 65536 + (i == 0 ? 254 : 255));
        }
        Check.due("memory(8)", host.memory(8), 65536);
        Check.due("memory(16375)", host.memory(16375), 65536);
        Check.due("memory(16384)", host.memory(16384), 0);
        host.image(0, 0L);
        Check.due("still the old one", host.memory(0), 65536 + 0x11);
        host.begin();
        Check.due("the new one", host.memory(0), 65536);
        Check.due("the other one stays", host.memory(16383), 65536 + 255);
        wrongInputs(host);
        storedIsNotKept();
        Check.finish();
    }

    private static void wrongInputs(Renewed host) {
        int[] wrong = {-8, -1, 1, 4, 7, 9, 16377, 16380, 16384, 65536, Integer.MIN_VALUE, Integer.MAX_VALUE, -16376};
        for (int at : wrong) {
            Check.illegal("image(" + at + ", 5)", () -> host.image(at, 5L));
        }
        host.begin();
        Check.due("a call that throws changes nothing", host.memory(8), 65536);
    }

    private static void storedIsNotKept() {
        Renewed host = new Asm().word(Asm.addi(5, 0, 7)).word(Asm.store(2, 5, 0, 64)).done();
        Check.due("stored", host.memory(64), 65536 + 7);
        host.begin();
        Check.due("gone with begin()", host.memory(64), 65536);
    }
}
