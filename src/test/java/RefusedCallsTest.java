import java.util.ArrayList;
import java.util.List;
import java.util.function.Consumer;
import java.util.function.Function;
import java.util.function.ToLongFunction;

/**
 * Behind section 6: each refused call, in each state that an object may be in, against a twin of the
 * object that was not called so: both answer the same to all that is asked of them afterwards.
 */
public final class RefusedCallsTest {
    private static final Check C = new Check("RefusedCallsTest");
    private static final String SAYS = "a call that throws, or answers NONE, changes nothing (but for look(), and put(), which answers "
        + "what was there).";
    private static final int LEAST = Integer.MIN_VALUE;
    private static final int MOST = Integer.MAX_VALUE;
    private static final String ARGUMENT = "IllegalArgumentException";
    private static final String STATE = "IllegalStateException";
    private static final String INDEX = "IndexOutOfBoundsException";
    private static final String NONE = "NONE";
    private static final String DONE = "";

    /** How an object came to be as it is, and what is so then. */
    private static final class Story {
        final String name;
        final int state;
        final int bytes;
        final Consumer<BundleFence> tell;
        boolean valid;
        boolean inputFull;

        Story(String name, int state, int bytes, Consumer<BundleFence> tell) {
            this.name = name;
            this.state = state;
            this.bytes = bytes;
            this.tell = tell;
        }

        BundleFence object() {
            BundleFence x = new BundleFence();
            tell.accept(x);
            return x;
        }
    }

    /** A call, and how it is refused: by an exception, by NONE, or not at all. */
    private static final class Attempt {
        final String name;
        final ToLongFunction<BundleFence> call;
        final Function<Story, String> due;

        Attempt(String name, ToLongFunction<BundleFence> call, Function<Story, String> due) {
            this.name = name;
            this.call = call;
            this.due = due;
        }
    }

    private static final List<Story> STORIES = new ArrayList<>();
    private static final List<Attempt> ATTEMPTS = new ArrayList<>();

    public static void main(String[] args) {
        C.says("6 RUNNING", SAYS);
        tellStories();
        tryImageCalls();
        tryMemoryCalls();
        tryRunCalls();
        for (Story s : STORIES) {
            for (Attempt a : ATTEMPTS) {
                compare(s, a);
            }
        }
        firstNamedFirst();
        C.end();
    }

    private static Story story(String name, int state, int bytes, Consumer<BundleFence> tell) {
        Story s = new Story(name, state, bytes, tell);
        STORIES.add(s);
        return s;
    }

    private static void tellStories() {
        story("a new object", 0, 0, x -> { });
        story("an empty image looked at", 0, 0, x -> x.look());
        story("an image of a byte", 0, 1, x -> x.feed(1, 0x90));
        story("an image that is not looked through", 0, 32, x -> Fences.load(x, Fences.filled("", 32)));
        story("a VALID image", 0, 32, x -> look(x, "51")).valid = true;
        story("an image with a fault", 0, 32, x -> look(x, "90 90 88 00"));
        story("a run of a VALID image", 1, 32, x -> {
            look(x, "40 40");
            x.begin(false);
            x.run(3);
        }).valid = true;
        for (int state = 1; state <= 8; state++) {
            int s = state;
            story("STATE " + state, state, 32, x -> {
                busy(x);
                Fences.load(x, Fences.filled(States.program(s), 32));
                States.start(x, s);
            });
        }
        story("a run that feed() ended", 0, 33, x -> {
            look(x, "40 40");
            x.begin(false);
            x.run(3);
            x.feed(1, 0x90);
        });
        story("a run that wipe() ended", 0, 0, x -> {
            look(x, "40 40");
            x.begin(false);
            x.run(3);
            x.wipe();
        });
        story("a full image in a run", 1, 2048, x -> {
            Fences.load(x, Fences.filled("", 2048));
            x.look();
            x.begin(false);
            x.run(3);
        }).valid = true;
        story("a full image with a fault", 0, 2048, x -> {
            Fences.load(x, Fences.nops(2048));
            x.look();
        });
        story("a full INPUT in a run", 1, 32, x -> {
            for (int i = 0; i < 32; i++) {
                x.give(8, 0x0101010101010101L * i);
            }
            look(x, "40 40");
            x.begin(false);
            x.run(2);
        }).valid = true;
        STORIES.get(STORIES.size() - 1).inputFull = true;
    }

    /** Some of all that may be changed by mistake. */
    private static void busy(BundleFence x) {
        x.give(3, 0x030201);
        x.poke(0x10000, 1);
        x.poke(0x1FFFF, 2);
        x.stop(5, true);
        x.stop(2047, true);
    }

    private static void look(BundleFence x, String hex) {
        busy(x);
        Fences.load(x, Fences.filled(hex, 32));
        x.look();
        x.tell(0);
    }

    private static void attempt(String name, String due, ToLongFunction<BundleFence> call) {
        ATTEMPTS.add(new Attempt(name, call, s -> due));
    }

    private static void attempt(String name, Function<Story, String> due, ToLongFunction<BundleFence> call) {
        ATTEMPTS.add(new Attempt(name, call, due));
    }

    private static void tryImageCalls() {
        for (int n : new int[] {0, 9, -1, LEAST, MOST}) {
            attempt("feed(" + n + ")", ARGUMENT, x -> x.feed(n, -1L));
        }
        for (int n = 1; n <= 8; n++) {
            int bytes = n;
            attempt("feed(" + n + ")", s -> s.bytes + bytes > 2048 ? NONE : DONE, x -> x.feed(bytes, -1L));
        }
        for (int p : new int[] {-1, 2048, LEAST, MOST}) {
            attempt("unit(" + p + ")", NONE, x -> x.unit(p));
            attempt("tell(" + p + ")", NONE, x -> x.tell(p));
        }
        attempt("unit(0)", s -> s.valid ? DONE : NONE, x -> x.unit(0));
        attempt("unit(32)", s -> s.valid && s.bytes > 32 ? DONE : NONE, x -> x.unit(32));
        attempt("tell(33)", s -> s.bytes > 33 ? DONE : NONE, x -> x.tell(33));
    }

    private static void tryMemoryCalls() {
        for (int a : new int[] {0xFFFF, 0x20000, 0x1000, 0, -1, LEAST, MOST}) {
            attempt("poke(" + a + ", 1)", ARGUMENT, x -> x.poke(a, 1));
            attempt("poke(" + a + ", 256)", ARGUMENT, x -> x.poke(a, 256));
        }
        for (int v : new int[] {-1, 256, LEAST, MOST}) {
            attempt("poke(0x10000, " + v + ")", ARGUMENT, x -> x.poke(0x10000, v));
            attempt("poke(0x1FFFF, " + v + ")", ARGUMENT, x -> x.poke(0x1FFFF, v));
        }
        for (int a : new int[] {0xFFF, 0x1800, 0xFFFF, 0x20000, 0, -1, LEAST, MOST}) {
            attempt("peek(" + a + ")", NONE, x -> x.peek(a));
        }
        for (int n : new int[] {0, 9, -1, LEAST, MOST}) {
            attempt("give(" + n + ")", ARGUMENT, x -> x.give(n, -1L));
        }
        for (int n = 1; n <= 8; n++) {
            int bytes = n;
            attempt("give(" + n + ")", s -> s.inputFull ? NONE : DONE, x -> x.give(bytes, -1L));
        }
        for (int i : new int[] {-1, 1024, LEAST, MOST, 0}) {
            attempt("output(" + i + ")", NONE, x -> x.output(i));
        }
    }

    private static long begin(BundleFence x, boolean anyway) {
        x.begin(anyway);
        return 0;
    }

    private static void tryRunCalls() {
        attempt("begin(false)", s -> s.valid ? DONE : STATE, x -> begin(x, false));
        attempt("begin(true)", s -> s.bytes == 0 ? STATE : DONE, x -> begin(x, true));
        for (int n : new int[] {-1, 10001, LEAST, MOST}) {
            attempt("run(" + n + ")", ARGUMENT, x -> x.run(n));
        }
        for (int n : new int[] {0, 1, 10000}) {
            attempt("run(" + n + ")", s -> s.state == 0 ? STATE : DONE, x -> x.run(n));
        }
        for (int p : new int[] {-1, 2048, LEAST, MOST}) {
            attempt("stop(" + p + ", true)", ARGUMENT, x -> x.stop(p, true) ? 1 : 0);
            attempt("stop(" + p + ", false)", ARGUMENT, x -> x.stop(p, false) ? 1 : 0);
            attempt("passed(" + p + ")", ARGUMENT, x -> x.passed(p));
        }
        for (int k : new int[] {-1, 8, LEAST, MOST}) {
            attempt("told(" + k + ")", ARGUMENT, x -> x.told(k));
            attempt("register(" + k + ")", INDEX, x -> x.register(k));
            attempt("put(" + k + ", 1)", INDEX, x -> x.put(k, 1));
        }
        for (int k = 0; k < 8; k++) {
            int r = k;
            attempt("put(" + k + ", 9)", s -> s.state == 0 ? STATE : DONE, x -> x.put(r, 9));
        }
    }

    private static void compare(Story s, Attempt a) {
        String due = a.due.apply(s);
        BundleFence x = s.object();
        String got = outcome(x, a.call);
        if (due.equals(DONE)) {
            C.due(s.name + ": " + a.name + " is not refused", got.endsWith("Exception"), false);
            return;
        }
        C.due(s.name + ": " + a.name, got, due.equals(NONE) ? "-1" : due);
        C.due(s.name + ": all behind " + a.name, after(x), after(s.object()));
    }

    private static String outcome(BundleFence x, ToLongFunction<BundleFence> call) {
        long[] answer = {0};
        String thrown = Check.thrownBy(() -> answer[0] = call.applyAsLong(x));
        return thrown.equals("nothing") ? String.valueOf(answer[0]) : thrown;
    }

    /** All answers that an object gives, told and then led on: some 190 calls. */
    private static String after(BundleFence x) {
        StringBuilder s = new StringBuilder();
        addTold(x, s);
        s.append(" run ").append(outcome(x, y -> y.run(2)));
        addRun(x, s);
        s.append(" put ").append(outcome(x, y -> y.put(5, 1)));
        s.append(" give ").append(outcome(x, y -> y.give(1, 0x5A))).append(' ').append(x.told(4));
        s.append(" begin ").append(outcome(x, y -> begin(y, false)));
        s.append(" run ").append(outcome(x, y -> y.run(10000)));
        addRun(x, s);
        for (int p : new int[] {0, 1, 2, 5, 2046, 2047}) {
            s.append(" stop ").append(x.stop(p, false));
        }
        s.append(" look ").append(x.look()).append(' ').append(x.fault()).append(' ').append(x.place());
        s.append(" begin ").append(outcome(x, y -> begin(y, true)));
        s.append(" feed ").append(outcome(x, y -> y.feed(1, 0xF4)));
        s.append(" wipe ").append(x.wipe());
        addInput(x, s);
        return s.toString();
    }

    private static void addTold(BundleFence x, StringBuilder s) {
        s.append("fault ").append(x.fault()).append(" place ").append(x.place());
        for (int p : new int[] {0, 1, 2, 31, 32, 2047}) {
            s.append(" unit ").append(x.unit(p)).append(" size ").append(x.size(p)).append(" passed ").append(x.passed(p));
        }
        for (int a : new int[] {0x1000, 0x1001, 0x101F, 0x17FF, 0x10000, 0x10001, 0x1FFFC, 0x1FFFF}) {
            s.append(" peek ").append(x.peek(a));
        }
        for (int i = 0; i < 24; i += 8) {
            s.append(" text ").append(x.text(i)).append(" output ").append(x.output(i));
        }
        addRun(x, s);
    }

    private static void addRun(BundleFence x, StringBuilder s) {
        s.append(" steps ").append(x.steps());
        for (int k = 0; k < 8; k++) {
            s.append(" told ").append(x.told(k)).append(" register ").append(x.register(k));
        }
    }

    /** What waits in the INPUT can only be told by a program that reads it. */
    private static void addInput(BundleFence x, StringBuilder s) {
        Fences.load(x, Fences.filled("E8 " + Fences.le(Fences.gate(2) - 0x1005), 32));
        x.begin(true);
        x.run(1);
        s.append(" read ").append(Fences.serve(x, 0x10000, 300));
        for (int i = 0; i < 300; i += i < 8 ? 1 : 31) {
            s.append(' ').append(x.peek(0x10000 + i));
        }
    }

    private static void firstNamedFirst() {
        C.says("6 RUNNING", "Methods throw what their comments name, the one named first when several would do, and before they answer "
            + "NONE;");
        BundleFence none = new BundleFence();
        C.refused("run(-1) in STATE 0", IllegalArgumentException.class, () -> none.run(-1));
        C.refused("run(10001) in STATE 0", IllegalArgumentException.class, () -> none.run(10001));
        C.refused("run(10000) in STATE 0", IllegalStateException.class, () -> none.run(10000));
        C.refused("put(-1) in STATE 0", IndexOutOfBoundsException.class, () -> none.put(-1, 0));
        C.refused("put(8) in STATE 0", IndexOutOfBoundsException.class, () -> none.put(8, 0));
        C.refused("put(7) in STATE 0", IllegalStateException.class, () -> none.put(7, 0));
        BundleFence full = Fences.of(Fences.nops(2048));
        C.refused("feed(0) of a full image", IllegalArgumentException.class, () -> full.feed(0, 0));
        C.refused("feed(9) of a full image", IllegalArgumentException.class, () -> full.feed(9, 0));
        C.due("feed(1) of a full image", full.feed(1, 0), -1);
        BundleFence input = new BundleFence();
        for (int i = 0; i < 32; i++) {
            input.give(8, 0);
        }
        C.refused("give(0) of a full INPUT", IllegalArgumentException.class, () -> input.give(0, 0));
        C.refused("give(9) of a full INPUT", IllegalArgumentException.class, () -> input.give(9, 0));
        C.due("give(1) of a full INPUT", input.give(1, 0), -1);
        // look() and put() are no refused calls, whatever they answer
        BundleFence bad = Fences.of("06");
        C.due("look() with a fault", bad.look(), -1);
        C.due("fault() behind it", bad.fault(), 1);
        bad.begin(true);
        bad.put(0, -1);
        C.due("put() of what is -1", bad.put(0, 5), -1);
        C.due("register(0) behind it", bad.register(0), 5);
    }
}
