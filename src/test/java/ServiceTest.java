/** The services of the host (promises 13, 15, 17, 18, 21). */
public final class ServiceTest {
    private static final Check C = new Check("ServiceTest");

    public static void main(String[] args) {
        leave();
        returning();
        stackFaults();
        writing();
        writingMuch();
        reading();
        readingAround();
        counting();
        breaking();
        seeding();
        summing();
        pausing();
        others();
        C.end();
    }

    /** call of gate k at place 0, behind it nops; ebx and ecx are put. */
    private static BundleFence calling(int k, int ebx, int ecx) {
        BundleFence x = Fences.of("E8 " + Fences.le(0x400 + 32 * k - 0x1005) + " " + Fences.filled("", 59));
        x.begin(true);
        x.put(3, ebx);
        x.put(1, ecx);
        C.due("the call", x.run(1), 1);
        C.due("eip", x.told(1), 0x400 + 32 * k);
        return x;
    }

    /** Does service k once more in the same run. */
    private static int again(BundleFence x, int k, int ebx, int ecx) {
        BundleFence y = x;
        y.put(3, ebx);
        y.put(1, ecx);
        C.due("the call", y.run(1), 1);
        C.due("eip at the gate " + k, y.told(1), 0x400 + 32 * k);
        C.due("the service", y.run(1), 1);
        return y.register(0);
    }

    /** A fence in a run whose image calls gate k again and again. */
    private static BundleFence looping(int k) {
        // the call ends its BUNDLE; the next one begins with a jmp back to it
        BundleFence x = Fences.of("E9 16 00 00 00 " + "90 ".repeat(22) + "E8 "
                + Fences.le(0x400 + 32 * k - 0x1020) + " " + Fences.filled("EB F9", 32));
        C.due("look()", x.look() > 0, true);
        x.begin(false);
        C.due("the jmp", x.run(1), 1);
        return x;
    }

    private static int served(BundleFence x, int k, int ebx, int ecx) {
        int answer = again(x, k, ebx, ecx);
        C.due("eip behind the service", x.told(1), 0x1020);
        C.due("esp behind the service", x.register(4), 0x20000);
        if (x.told(0) == 1) {
            C.due("the jmp back", x.run(1), 1);
        }
        return answer;
    }

    private static void leave() {
        BundleFence x = calling(0, -7, 5);
        x.put(4, 0);
        x.put(0, 77);
        C.due("told(2) before", x.told(2), 0);
        C.due("run(9)", x.run(9), 1);
        C.due("state", x.told(0), 2);
        C.due("left with", x.told(2), -7);
        C.due("eip", x.told(1), 0x400);
        C.due("esp", x.register(4), 0);
        C.due("eax", x.register(0), 77);
        C.due("steps()", x.steps(), 2);
        C.due("run(9) again", x.run(9), 0);
        x.wipe();
        C.due("left with, when it is over", x.told(2), -7);
        C.due("state", x.told(0), 0);
        x.feed(1, 0xF4);
        C.due("left with, before the next run", x.told(2), -7);
        x.begin(true);
        C.due("left with, in the next run", x.told(2), 0);
    }

    private static void returning() {
        BundleFence x = calling(9, 0, 0);
        x.poke(0x1FFFC, 0x3F);
        C.due("the service", x.run(1), 1);
        C.due("eip", x.told(1), 0x1020);
        C.due("esp", x.register(4), 0x20000);
        C.due("R stays", x.peek(0x1FFFC), 0x3F);
        // R in the image, and R that leads nowhere
        BundleFence y = calling(9, 0, 0);
        y.put(4, 0x1001);
        C.due("the service", y.run(1), 1);
        C.due("eip", y.told(1), (0x400 + 32 * 9 - 0x1005) & ~31);
        C.due("esp", y.register(4), 0x1005);
        C.due("a step there", y.run(1), 0);
        C.due("state", y.told(0), 5);
        // from gate to gate
        BundleFence z = calling(8, 0, 0);
        Fences.pokeLong(z, 0x1FFFC, 0x41F);
        z.put(3, 3);
        C.due("two services", z.run(9), 2);
        C.due("state", z.told(0), 2);
        C.due("left with", z.told(2), 3);
    }

    private static void stackFaults() {
        int[] bad = {0, 0xFFFE, 0xFFFF, 0x1FFFD, 0x20000, 0x103D, 0xFFF, -1, -4, 0x20FFF};
        for (int k = 1; k < 16; k++) {
            for (int esp : bad) {
                BundleFence x = calling(k, 0x10000, 1);
                x.give(1, 9);
                x.put(4, esp);
                x.put(0, 55);
                C.due("service " + k, x.run(9), 0);
                C.due("state", x.told(0), 5);
                C.due("eip", x.told(1), 0x400 + 32 * k);
                C.due("esp", x.register(4), esp);
                C.due("eax", x.register(0), 55);
                C.due("steps()", x.steps(), 1);
                C.due("OUTPUT", x.told(3), 0);
                C.due("INPUT", x.told(4), 1);
                C.due("BREAK", x.told(5), 0x10000);
                C.due("SEED", x.told(6), 0);
            }
        }
    }

    private static final int[][] NOT_IN_DATA = {{0xFFFF, 1}, {0xFFFF, 2}, {0x20000, 1}, {0x1FFFF, 2}, {0x10000, 0x10001},
        {0x1000, 1}, {0x10000, -1}, {-1, 2}, {0x10001, -0x10000}, {0x10000, Integer.MIN_VALUE}, {0, 0x20000}};

    private static void writing() {
        BundleFence x = looping(1);
        for (int i = 0; i < 5; i++) {
            x.poke(0x1FFFB + i, 0xF0 + i);
        }
        C.due("WRITE of 0 nowhere", served(x, 1, 0, 0), 0);
        for (int[] n : NOT_IN_DATA) {
            C.due("WRITE of " + n[1] + " at " + n[0], served(x, 1, n[0], n[1]), -14);
        }
        C.due("OUTPUT", x.told(3), 0);
        C.due("output(0)", x.output(0), -1);
        x.poke(0x10000, 1);
        x.poke(0x10001, 255);
        C.due("WRITE of 2", served(x, 1, 0x10000, 2), 2);
        C.due("WRITE of 1 more", served(x, 1, 0x10001, 1), 1);
        C.due("OUTPUT", x.told(3), 3);
        int[] want = {1, 255, 255};
        for (int i = 0; i < 3; i++) {
            C.due("output(" + i + ")", x.output(i), want[i]);
        }
        C.due("output(3)", x.output(3), -1);
        C.due("output(-1)", x.output(-1), -1);
        C.due("output(most)", x.output(Integer.MAX_VALUE), -1);
        C.due("WRITE of the last of DATA", served(x, 1, 0x1FFFB, 1), 1);
        C.due("output(3)", x.output(3), 0xF0);
        C.due("steps()", x.steps(), 1 + 3 * (4 + NOT_IN_DATA.length));
        x.wipe();
        C.due("OUTPUT when the run is over", x.told(3), 4);
        C.due("output(3) when the run is over", x.output(3), 0xF0);
        Fences.load(x, "F4");
        x.begin(true);
        C.due("OUTPUT of a new run", x.told(3), 0);
        C.due("output(0) of a new run", x.output(0), -1);
    }

    private static void writingMuch() {
        BundleFence x = looping(1);
        x.poke(0x10000 + 1022, 3);
        x.poke(0x10000 + 1023, 4);
        C.due("WRITE of 1000", served(x, 1, 0x10000, 1000), 1000);
        C.due("WRITE of all DATA", served(x, 1, 0x10000, 0x10000), 24);
        C.due("OUTPUT", x.told(3), 1024);
        C.due("WRITE to a full one", served(x, 1, 0x10000, 1), 0);
        C.due("WRITE to a full one from nowhere", served(x, 1, 0, 1), -14);
        C.due("output(1023)", x.output(1023), 0);
        C.due("output(1024)", x.output(1024), -1);
        BundleFence y = looping(1);
        y.poke(0x10000 + 1023, 4);
        C.due("WRITE of 1025", served(y, 1, 0x10000, 1025), 1024);
        C.due("output(1023)", y.output(1023), 4);
    }

    private static void reading() {
        BundleFence x = looping(2);
        C.due("READ of nothing", served(x, 2, 0x10000, 5), 0);
        x.give(4, 0x44332211L);
        C.due("READ of 0 nowhere", served(x, 2, 0, 0), 0);
        for (int[] n : NOT_IN_DATA) {
            C.due("READ of " + n[1] + " to " + n[0], served(x, 2, n[0], n[1]), -14);
        }
        C.due("INPUT", x.told(4), 4);
        C.due("READ of 3", served(x, 2, 0x10010, 3), 3);
        C.due("INPUT", x.told(4), 1);
        C.due("what was read", Fences.peekLong(x, 0x10010), 0x332211);
        C.due("READ of all", served(x, 2, 0x10000, 0x10000), 1);
        C.due("what was read", Fences.peekLong(x, 0x10000), 0x44);
        C.due("INPUT", x.told(4), 0);
        C.due("READ of no more", served(x, 2, 0x10000, 1), 0);
        // to the stack, where R was
        x.give(8, 0x0807060504030201L);
        C.due("READ over R", served(x, 2, 0x1FFF8, 8), 8);
        C.due("what was read", Fences.peekLong(x, 0x1FFFC), 0x08070605);
        // INPUT stays when images and runs go
        x.give(2, 0x0201);
        x.wipe();
        C.due("INPUT behind wipe", x.told(4), 2);
        x.feed(1, 0xF4);
        x.begin(true);
        C.due("INPUT behind begin", x.told(4), 2);
        C.due("give(1)", x.give(1, 3), 3);
    }

    private static void readingAround() {
        BundleFence x = looping(2);
        int put = 0;
        int got = 0;
        for (int round = 0; round < 9; round++) {
            for (int i = 0; i < 5; i++) {
                long eight = 0;
                for (int k = 7; k >= 0; k--) {
                    eight = eight << 8 | (put + k & 0xFF);
                }
                put += 8;
                C.due("give(8)", x.give(8, eight), put - got);
            }
            int n = 40 - round % 3;
            C.due("READ", served(x, 2, 0x10000, n), n);
            for (int i = 0; i < n; i++) {
                C.due("byte " + got, x.peek(0x10000 + i), got & 0xFF);
                got++;
            }
        }
    }

    private static void counting() {
        BundleFence x = looping(3);
        C.due("steps before", served(x, 3, 0, 0), 2);
        C.due("steps before", served(x, 3, 0, 0), 5);
        C.due("steps()", x.steps(), 7);
        x.run(10000);
        x.run(10000);
        C.due("steps()", x.steps(), 20007);
    }

    private static void breaking() {
        BundleFence x = looping(4);
        C.due("BREAK at first", served(x, 4, 0, 0), 0x10000);
        C.due("BREAK in DATA", served(x, 4, 0x12345, 0), 0x12345);
        C.due("told(5)", x.told(5), 0x12345);
        for (int a : new int[] {0xFFFF, 0x20000, 0x1000, -1, 0, Integer.MIN_VALUE}) {
            C.due("BREAK stays", served(x, 4, a, 0), 0x12345);
        }
        C.due("BREAK at the end", served(x, 4, 0x1FFFF, 0), 0x1FFFF);
        C.due("BREAK at the beginning", served(x, 4, 0x10000, 0), 0x10000);
        served(x, 4, 0x10001, 0);
        x.begin(true);
        C.due("BREAK of a new run", x.told(5), 0x10000);
    }

    private static void seeding() {
        BundleFence x = looping(5);
        int seed = 0;
        for (int i = 0; i < 20; i++) {
            seed = seed * 1103515245 + 12345;
            C.due("a number", served(x, 5, 0, 0), seed >>> 16 & 0x7FFF);
            C.due("told(6)", x.told(6), seed);
        }
        x.begin(true);
        C.due("SEED of a new run", x.told(6), 0);
        BundleFence y = looping(5);
        C.due("the first", served(y, 5, 0, 0), 0);
        C.due("the second", served(y, 5, 0, 0), 21468);
        C.due("the third", served(y, 5, 0, 0), 9988);
    }

    private static void summing() {
        BundleFence x = looping(6);
        C.due("sum of 0 bytes nowhere", served(x, 6, 0, 0), 0);
        for (int[] n : NOT_IN_DATA) {
            C.due("sum of " + n[1] + " at " + n[0], served(x, 6, n[0], n[1]), -14);
        }
        x.poke(0x10000, 255);
        x.poke(0x10001, 2);
        x.poke(0x10002, 3);
        C.due("sum of 1", served(x, 6, 0x10000, 1), 255);
        C.due("sum of 2", served(x, 6, 0x10000, 2), 255 * 31 + 2);
        C.due("sum of 3", served(x, 6, 0x10000, 3), 255 * 31 * 31 + 2 * 31 + 3);
    }

    private static void pausing() {
        BundleFence x = looping(7);
        x.put(0, 5);
        C.due("PAUSE", served(x, 7, 0, 0), 0);
        C.due("state", x.told(0), 7);
        C.due("steps()", x.steps(), 3);
        C.due("run(0)", x.run(0), 0);
        C.due("state", x.told(0), 1);
        C.due("run(9) to the next PAUSE", x.run(9), 3);
        C.due("state", x.told(0), 7);
        x.stop(0x20, true);
        C.due("run(9) is not stopped before its first step", x.run(9), 3);
        C.due("state", x.told(0), 7);
        x.stop(0x1B, true);
        C.due("run(9) to the breakpoint", x.run(9), 1);
        C.due("state", x.told(0), 8);
        C.due("run(9)", x.run(9), 2);
        C.due("state", x.told(0), 7);
    }

    private static void others() {
        for (int k = 8; k < 16; k++) {
            BundleFence x = looping(k);
            C.due("service " + k, served(x, k, 0x10000, 4), -38);
            C.due("state", x.told(0), 1);
        }
    }
}
