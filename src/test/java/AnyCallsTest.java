import java.util.Random;

/** Any calls in any order: no call throws but what its comment names, and a refused one changes nothing. */
public final class AnyCallsTest {
    private static final Check C = new Check("AnyCallsTest");
    private static final int[] EDGES = {0, 1, -1, 7, 8, 9, 31, 32, 255, 256, 2047, 2048, 0x400, 0x5E0, 0x600, 0xFFF,
        0x1000, 0x17FF, 0x1800, 0xFFFF, 0x10000, 0x1FFFF, 0x20000, 10000, 10001, Integer.MAX_VALUE,
        Integer.MIN_VALUE};
    private static final String[] NAMES = {"feed", "wipe", "look", "unit", "size", "tell", "text", "poke", "peek",
        "give", "begin", "run", "stop", "told", "register", "put", "output", "passed"};

    private static Random random;

    public static void main(String[] args) {
        for (int seed = 0; seed < 2000; seed++) {
            random = new Random(seed);
            BundleFence x = new BundleFence();
            // an object is used for 512 calls alone, and to compare states takes many
            int unseen = 20 * random.nextInt(21);
            for (int i = 0; i < unseen + 2; i++) {
                oneCall(x, "seed " + seed + " call " + i, i >= unseen);
            }
        }
        C.end();
    }

    private static int any() {
        switch (random.nextInt(4)) {
            case 0:
                return EDGES[random.nextInt(EDGES.length)];
            case 1:
                return random.nextInt(10);
            case 2:
                return random.nextInt(3000);
            default:
                return random.nextInt();
        }
    }

    private static long state(BundleFence x) {
        long h = x.steps();
        for (int k = 0; k < 8; k++) {
            h = 31 * (31 * h + x.told(k)) + x.register(k);
        }
        h = 31 * (31 * h + x.fault()) + x.place();
        h = 31 * (31 * h + x.text(0)) + x.unit(0);
        return 31 * (31 * h + x.peek(0x10000)) + x.peek(0x1000);
    }

    private static void oneCall(BundleFence x, String title, boolean seen) {
        long before = seen ? state(x) : 0;
        int which = random.nextInt(NAMES.length + 8);
        String name = which < NAMES.length ? NAMES[which] : "feed";
        String thrown = "";
        long answer = 0;
        try {
            answer = call(x, name);
        } catch (RuntimeException e) {
            thrown = e.getClass().getSimpleName();
        }
        C.due(title + " " + name + " throws " + thrown + ", as named", named(name).contains(" " + thrown + " "), true);
        boolean same = !name.equals("look") && !name.equals("put") && (answer == -1 || !thrown.isEmpty());
        if (seen && same) {
            C.due(title + " " + name + " changes nothing", state(x) == before, true);
        }
    }

    /** What a call may throw; nothing stands for a call that throws nothing. */
    private static String named(String name) {
        switch (name) {
            case "feed":
            case "poke":
            case "give":
            case "stop":
            case "told":
            case "passed":
                return "  IllegalArgumentException ";
            case "begin":
                return "  IllegalStateException ";
            case "run":
                return "  IllegalArgumentException IllegalStateException ";
            case "register":
                return "  IndexOutOfBoundsException ";
            case "put":
                return "  IndexOutOfBoundsException IllegalStateException ";
            default:
                return "  ";
        }
    }

    private static long call(BundleFence x, String name) {
        switch (name) {
            case "feed":
                return x.feed(random.nextInt(40) == 0 ? any() : 1 + random.nextInt(8), random.nextLong());
            case "wipe":
                return random.nextInt(5) == 0 ? x.wipe() : 0;
            case "look":
                return x.look();
            case "unit":
                return x.unit(any());
            case "size":
                return x.size(any());
            case "tell":
                return x.tell(any());
            case "text":
                return x.text(any()) | 1L << 40;
            case "poke":
                return x.poke(random.nextBoolean() ? any() : 0x10000 + random.nextInt(65536), random.nextInt(270) - 5);
            case "peek":
                return x.peek(any());
            case "give":
                return x.give(random.nextInt(10), random.nextLong());
            case "begin":
                x.begin(random.nextInt(4) != 0);
                return 0;
            default:
                return callRun(x, name);
        }
    }

    private static long callRun(BundleFence x, String name) {
        switch (name) {
            case "run":
                return x.run(random.nextInt(3) == 0 ? any() : random.nextInt(50));
            case "stop":
                return x.stop(any(), random.nextBoolean()) ? 1 : 0;
            case "told":
                return x.told(random.nextInt(10) - 1) | 1L << 40;
            case "register":
                return x.register(random.nextInt(10) - 1) | 1L << 40;
            case "put":
                return x.put(random.nextInt(10) - 1, random.nextInt(4) == 0 ? any() : 0x10000 + random.nextInt(65536));
            case "output":
                return x.output(any());
            default:
                return x.passed(any());
        }
    }
}
