/** Promise 1: a new object has no IMAGE and is as begin() leaves it. */
public final class NewObjectTest {
    public static void main(String[] args) {
        Renewed fresh = new Renewed();
        asBegun("new", fresh);
        fresh.begin();
        asBegun("new and begun", fresh);
        Check.due("the first word is no INSTRUCTION", fresh.run(1), 2);
        Check.due("TRAP 1", fresh.count(1), 1);
        fresh.begin();
        asBegun("begun behind a TRAP", fresh);
        Check.finish();
    }

    private static void asBegun(String about, Renewed host) {
        for (int what = 0; what <= 10; what++) {
            Check.due(about + ": count(" + what + ")", host.count(what), 0);
        }
        for (int k = 0; k < 32; k++) {
            Check.due(about + ": register(" + k + ")", host.register(k), k == 2 ? 65536 : 0);
            Check.due(about + ": unknown(" + k + ")", host.unknown(k), k == 0 || k == 2 ? 0 : -1);
        }
        for (int at = 0; at < 65536; at++) {
            int want = at < 16384 ? 65536 : at < 57344 ? 0 : 65536 + 255 * 256;
            if (host.memory(at) != want) {
                Check.due(about + ": memory(" + at + ")", host.memory(at), want);
            }
        }
        Check.outOfBounds(about + ": error(0, 0)", () -> host.error(0, 0));
        Check.outOfBounds(about + ": output(0)", () -> host.output(0));
        Check.due(about + ": run(0)", host.run(0), 0);
    }
}
