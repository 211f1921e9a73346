import java.util.ArrayList;
import java.util.List;
import java.util.function.Consumer;
import java.util.function.ToIntFunction;

/**
 * A ShadowHost of which nothing is asked behind its 512th call, since nothing is promised there: a new one takes
 * its place, on which all that may change something is called again in its order.
 */
final class Renewed {
    static final int MOST_CALLS = 512;

    private final List<Consumer<ShadowHost>> past = new ArrayList<>();
    private ShadowHost host = new ShadowHost();
    private int calls = 0;

    void image(int at, long w) {
        change(h -> h.image(at, w));
    }

    int input(long w, int n) {
        int[] answer = new int[1];
        change(h -> answer[0] = h.input(w, n));
        return answer[0];
    }

    void begin() {
        change(ShadowHost::begin);
    }

    int run(int n) {
        int[] answer = new int[1];
        change(h -> answer[0] = h.run(n));
        return answer[0];
    }

    int register(int k) {
        return ask(h -> h.register(k));
    }

    int unknown(int k) {
        return ask(h -> h.unknown(k));
    }

    int memory(int at) {
        return ask(h -> h.memory(at));
    }

    int error(int k, int what) {
        return ask(h -> h.error(k, what));
    }

    int output(int k) {
        return ask(h -> h.output(k));
    }

    int count(int what) {
        return ask(h -> h.count(what));
    }

    private void change(Consumer<ShadowHost> call) {
        makeRoom();
        past.add(call);
        calls++;
        call.accept(host);
    }

    private int ask(ToIntFunction<ShadowHost> call) {
        makeRoom();
        calls++;
        return call.applyAsInt(host);
    }

    private void makeRoom() {
        if (calls < MOST_CALLS) {
            return;
        }
        if (past.size() >= MOST_CALLS) {
            throw new IllegalStateException("the test calls for more than one object may be asked");
        }
        host = new ShadowHost();
        for (Consumer<ShadowHost> call : past) {
            again(call);
        }
        calls = past.size();
    }

    private void again(Consumer<ShadowHost> call) {
        try {
            call.accept(host);
        } catch (IllegalArgumentException | IndexOutOfBoundsException e) {
            // It was refused the first time, too, and is called again since it is to change nothing.
            return;
        }
    }
}
