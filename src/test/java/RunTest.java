/** Promises 14 to 20 and 22: runs, their states, breakpoints and what is told of them. */
public final class RunTest {
    private static final Check C = new Check("RunTest");
    private static final String FENCES_EBX = "81 E3 FF FF 00 00 81 CB 00 00 01 00 ";

    public static void main(String[] args) {
        beginning();
        beginningAgain();
        running();
        halted();
        trapped();
        fenced();
        escapedByEip();
        escapedFromUnits();
        lookedThroughLater();
        breakpoints();
        registers();
        telling();
        passes();
        unitsRun();
        refusals();
        C.end();
    }

    private static void state(BundleFence x, int want) {
        C.due("state", x.told(0), want);
    }

    private static void beginning() {
        BundleFence x = Fences.bundle("");
        C.refused("begin(false) before look()", IllegalStateException.class, () -> x.begin(false));
        state(x, 0);
        C.refused("run(1) before begin()", IllegalStateException.class, () -> x.run(1));
        x.begin(true);
        state(x, 1);
        C.due("run(2)", x.run(2), 2);
        x.look();
        x.begin(false);
        state(x, 1);
        C.due("eip", x.told(1), 0x1000);
        C.due("steps()", x.steps(), 0);
        BundleFence bad = Fences.bundle("FF E0");
        bad.look();
        C.refused("begin(false) with a fault", IllegalStateException.class, () -> bad.begin(false));
        bad.begin(true);
        state(bad, 1);
        C.refused("begin(false) with a fault in a run", IllegalStateException.class, () -> bad.begin(false));
        state(bad, 1);
        BundleFence none = new BundleFence();
        C.refused("begin(true) of nothing", IllegalStateException.class, () -> none.begin(true));
        C.refused("begin(false) of nothing", IllegalStateException.class, () -> none.begin(false));
        none.look();
        C.refused("begin(true) of nothing looked at", IllegalStateException.class, () -> none.begin(true));
        BundleFence one = Fences.of("40");
        one.begin(true);
        C.due("run(5) of one byte", one.run(5), 1);
        state(one, 5);
    }

    private static void beginningAgain() {
        // mov ebx,7; push ebx; stc; call gate 5 (seed), behind it gate 4 (break)
        BundleFence x = Fences.bundle("BB 05 00 01 00 53 F9 90 " + call(5, 8));
        x.begin(true);
        C.due("run(5)", x.run(5), 5);
        C.due("run(1) at the gate", x.run(1), 1);
        for (int k = 0; k < 8; k++) {
            x.put(k, 90 + k);
        }
        C.due("seed", x.told(6), 12345);
        C.due("flags", x.told(7), 1);
        x.poke(0x10000, 5);
        x.begin(true);
        int[] first = {1, 0x1000, 0, 0, 0, 0x10000, 0, 0};
        for (int k = 0; k < 8; k++) {
            C.due("told(" + k + ") at the beginning", x.told(k), first[k]);
            C.due("register(" + k + ") at the beginning", x.register(k), k == 4 ? 0x20000 : 0);
        }
        C.due("steps()", x.steps(), 0);
        C.due("passed(0)", x.passed(0), 0);
        C.due("DATA stays", x.peek(0x10000), 5);
        C.due("DATA that was pushed stays", x.peek(0x1FFFC), 5);
    }

    private static String call(int gate, int place) {
        return "E8 " + Fences.le(0x400 + 32 * gate - (0x1000 + place + 5)) + " ";
    }

    private static void running() {
        BundleFence x = Fences.bundle("40 EB FD");
        x.begin(true);
        C.due("run(0)", x.run(0), 0);
        state(x, 1);
        C.due("run(1)", x.run(1), 1);
        C.due("eax", x.register(0), 1);
        C.due("eip", x.told(1), 0x1001);
        C.due("run(10000)", x.run(10000), 10000);
        C.due("steps()", x.steps(), 10001);
        C.due("eax", x.register(0), 5001);
        C.due("passed(0)", x.passed(0), 5001);
        C.due("passed(1)", x.passed(1), 5000);
        C.refused("run(10001)", IllegalArgumentException.class, () -> x.run(10001));
        C.refused("run(-1)", IllegalArgumentException.class, () -> x.run(-1));
        for (int i = 0; i < 50; i++) {
            x.run(10000);
        }
        C.due("steps()", x.steps(), 510001);
        state(x, 1);
    }

    private static void halted() {
        BundleFence x = Fences.bundle("40 F4 40");
        x.begin(true);
        C.due("run(9)", x.run(9), 2);
        state(x, 3);
        C.due("eip behind hlt", x.told(1), 0x1002);
        C.due("steps()", x.steps(), 2);
        C.due("passed(1)", x.passed(1), 1);
        C.due("run(9) again", x.run(9), 0);
        state(x, 3);
        C.due("eip", x.told(1), 0x1002);
        C.due("put() when it is over", x.put(0, 5), 1);
        C.due("register(0)", x.register(0), 5);
    }

    private static void trapped() {
        BundleFence x = Fences.bundle("40 F7 F1 40");
        x.begin(true);
        C.due("run(9)", x.run(9), 1);
        state(x, 4);
        C.due("eip at div", x.told(1), 0x1001);
        C.due("steps()", x.steps(), 1);
        C.due("passed(1)", x.passed(1), 0);
        C.due("run(9) again", x.run(9), 0);
        state(x, 4);
        x.put(1, 1);
        C.due("run(9) with a divisor", x.run(9), 0);
        x.begin(true);
        state(x, 1);
    }

    private static void fenced() {
        BundleFence x = Fences.bundle("A9 00 00 00 00 FF E0");
        for (int eip : new int[] {0, 0xFFF, 0x1020, 0x3FF, 0x401, 0x41F, 0x3E0, 0x600, 0x10000, -1, 0x80001000,
            0x17FF, 0x1800}) {
            x.begin(true);
            x.put(0, eip);
            C.due("run(9) to " + eip, x.run(9), 2);
            state(x, 5);
            C.due("eip", x.told(1), eip);
            C.due("steps()", x.steps(), 2);
        }
        BundleFence y = Fences.bundle("8B 03");
        y.begin(true);
        C.due("a read that is not there", y.run(9), 0);
        state(y, 5);
        BundleFence z = Fences.bundle("89 05 00 00 02 00");
        z.begin(true);
        C.due("a write into the margin", z.run(9), 0);
        state(z, 5);
    }

    private static void escapedByEip() {
        BundleFence x = Fences.bundle("EB 01 90 0F 05 40");
        x.begin(true);
        C.due("run(9)", x.run(9), 1);
        state(x, 6);
        C.due("eip", x.told(1), 0x1003);
        BundleFence cut = Fences.of("90 B8 01 02");
        cut.begin(true);
        C.due("run(9) to what is cut off", cut.run(9), 1);
        state(cut, 6);
        C.due("eip", cut.told(1), 0x1001);
        BundleFence write = Fences.bundle("89 05 00 10 00 00");
        write.begin(true);
        C.due("a write into the image", write.run(9), 0);
        state(write, 6);
        C.due("the image stays", write.peek(0x1000), 0x89);
    }

    /** mov eax,0x40404040; jmp eax: with eax an address in the midst of the mov. */
    private static void escapedFromUnits() {
        String hex = "B8 40 40 40 40 83 E1 E0 FF E1";
        BundleFence x = Fences.bundle(hex);
        x.begin(true);
        x.run(1);
        jumpTo(x, 0x1001);
        C.due("into the midst, not looked through", x.run(1), 1);
        C.due("eip", x.told(1), 0x1002);
        BundleFence y = Fences.bundle(hex);
        C.due("look()", y.look(), 25);
        y.begin(true);
        y.run(1);
        jumpTo(y, 0x1001);
        C.due("into the midst of a VALID one", y.run(1), 0);
        state(y, 6);
        C.due("eip", y.told(1), 0x1001);
        y.begin(false);
        y.run(1);
        jumpTo(y, 0x1008);
        C.due("an instruction in the midst of a UNIT", y.run(1), 1);
        C.due("eip", y.told(1), 0x1008);
        state(y, 1);
        BundleFence bad = Fences.bundle(hex + " FF E0");
        bad.look();
        C.due("fault()", bad.fault(), 4);
        bad.begin(true);
        bad.run(1);
        jumpTo(bad, 0x1001);
        C.due("into the midst of one with a fault", bad.run(1), 1);
    }

    /** Does the call or jmp of ecx at place 8 after ecx was put. */
    private static void jumpTo(BundleFence x, int address) {
        x.put(1, -1);
        C.due("the and", x.run(1), 1);
        x.put(1, address);
        C.due("the jmp", x.run(1), 1);
        C.due("eip behind the jmp", x.told(1), address);
    }

    private static void lookedThroughLater() {
        BundleFence x = Fences.bundle("B8 40 40 40 40 83 E1 E0 FF E1");
        x.begin(true);
        x.run(1);
        jumpTo(x, 0x1001);
        C.due("a step in the midst", x.run(1), 1);
        C.due("look() in a run", x.look(), 25);
        state(x, 1);
        C.due("no more steps in the midst", x.run(1), 0);
        state(x, 6);
        C.due("eip", x.told(1), 0x1002);
    }

    private static void breakpoints() {
        BundleFence x = Fences.bundle("40 40 40 40 EB FA");
        C.due("stop(2, true)", x.stop(2, true), false);
        C.due("stop(2, true) again", x.stop(2, true), true);
        C.due("stop(2047, false)", x.stop(2047, false), false);
        C.refused("stop(-1)", IllegalArgumentException.class, () -> x.stop(-1, true));
        C.refused("stop(2048)", IllegalArgumentException.class, () -> x.stop(2048, true));
        x.begin(true);
        C.due("run(2)", x.run(2), 2);
        state(x, 1);
        C.due("run(1) is not stopped", x.run(1), 1);
        state(x, 1);
        C.due("run(10) to the breakpoint", x.run(10), 4);
        state(x, 8);
        C.due("eip", x.told(1), 0x1002);
        C.due("steps()", x.steps(), 7);
        C.due("run(0) wakes it", x.run(0), 0);
        state(x, 1);
        C.due("run(5) comes round", x.run(5), 5);
        state(x, 1);
        C.due("run(6)", x.run(6), 5);
        state(x, 8);
        C.refused("run(-1) does not wake it", IllegalArgumentException.class, () -> x.run(-1));
        state(x, 8);
        x.begin(true);
        C.due("it stays in a new run", x.run(10), 2);
        state(x, 8);
        C.due("stop(2, false)", x.stop(2, false), true);
        C.due("stop(2, false) again", x.stop(2, false), false);
        C.due("run(10) without it", x.run(10), 10);
        // it stays when images come and go
        x.stop(1, true);
        x.stop(2047, true);
        Fences.load(x, Fences.filled("90 90 90", 32));
        x.begin(true);
        C.due("run(9) of another image", x.run(9), 1);
        state(x, 8);
        C.due("stop(1, false) behind it all", x.stop(1, false), true);
        // at the first place: not before the first step of the call
        x.stop(0, true);
        x.begin(true);
        C.due("a breakpoint at place 0", x.run(9), 9);
        Fences.load(x, "EB FE");
        x.begin(true);
        C.due("a loop at place 0", x.run(9), 1);
        state(x, 8);
        C.due("a loop at place 0 again", x.run(9), 1);
        C.due("steps()", x.steps(), 2);
        // a step that can't be done: the breakpoint comes first, then the state of it
        BundleFence y = Fences.bundle("90 8B 00");
        y.stop(1, true);
        y.begin(true);
        C.due("run(9)", y.run(9), 1);
        state(y, 8);
        C.due("run(9) from there", y.run(9), 0);
        state(y, 5);
        // the last place of a full image
        BundleFence full = Fences.of("E9 FA 07 00 00 " + "90 ".repeat(2042) + "F4");
        full.stop(2047, true);
        full.begin(true);
        C.due("run(9)", full.run(9), 1);
        state(full, 8);
        C.due("run(9) to hlt", full.run(9), 1);
        state(full, 3);
        C.due("eip", full.told(1), 0x1800);
    }

    private static void registers() {
        BundleFence x = Fences.bundle("");
        C.refused("put(8) before a run", IndexOutOfBoundsException.class, () -> x.put(8, 0));
        C.refused("put(0) before a run", IllegalStateException.class, () -> x.put(0, 0));
        x.begin(true);
        for (int k = 0; k < 8; k++) {
            C.due("put(" + k + ")", x.put(k, -k - 1), k == 4 ? 0x20000 : 0);
        }
        for (int k = 0; k < 8; k++) {
            C.due("register(" + k + ")", x.register(k), -k - 1);
            C.due("put(" + k + ") again", x.put(k, k), -k - 1);
        }
        C.refused("put(8)", IndexOutOfBoundsException.class, () -> x.put(8, 0));
        C.refused("put(-1)", IndexOutOfBoundsException.class, () -> x.put(-1, 0));
        C.refused("register(8)", IndexOutOfBoundsException.class, () -> x.register(8));
        C.refused("register(-1)", IndexOutOfBoundsException.class, () -> x.register(-1));
        x.feed(1, 0);
        C.refused("put(0) when the run is over", IllegalStateException.class, () -> x.put(0, 9));
        C.refused("put(9) when the run is over", IndexOutOfBoundsException.class, () -> x.put(9, 9));
        C.due("register(3) when the run is over", x.register(3), 3);
    }

    private static void telling() {
        BundleFence x = Fences.bundle("");
        C.refused("told(-1)", IllegalArgumentException.class, () -> x.told(-1));
        C.refused("told(8)", IllegalArgumentException.class, () -> x.told(8));
        // each flag alone or with what comes with it
        flags("F9", 1);
        flags("04 03", 4);
        flags("04 00", 4 + 64);
        flags("04 80", 128);
        flags("B0 7F 04 01", 128 + 2048);
        flags("B0 80 04 80", 1 + 4 + 64 + 2048);
    }

    private static void flags(String hex, int want) {
        BundleFence x = Fences.bundle(hex);
        x.begin(true);
        x.run(Fences.bytes(hex).length > 2 ? 2 : 1);
        C.due("flags of " + hex, x.told(7), want);
        x.wipe();
        C.due("flags of " + hex + " when the run is over", x.told(7), want);
        C.due("state of " + hex + " when the run is over", x.told(0), 0);
    }

    private static void passes() {
        BundleFence x = Fences.bundle("B9 03 00 00 00 E2 FE");
        x.begin(true);
        C.due("run(10)", x.run(10), 10);
        C.due("passed(0)", x.passed(0), 1);
        C.due("passed(5)", x.passed(5), 3);
        C.due("passed(6)", x.passed(6), 0);
        C.due("passed(7)", x.passed(7), 1);
        C.due("passed(2047)", x.passed(2047), 0);
        C.refused("passed(-1)", IllegalArgumentException.class, () -> x.passed(-1));
        C.refused("passed(2048)", IllegalArgumentException.class, () -> x.passed(2048));
        x.wipe();
        C.due("passed(5) when the run is over", x.passed(5), 3);
    }

    private static void unitsRun() {
        BundleFence x = Fences.bundle("BB 12 00 FF 7F " + FENCES_EBX + "89 5B 08");
        C.due("look()", x.look(), 1 + 3 + 12);
        x.begin(false);
        C.due("run(4)", x.run(4), 4);
        C.due("ebx", x.register(3), 0x10012);
        C.due("what was written", Fences.peekLong(x, 0x1001A), 0x10012);
        BundleFence y = Fences.bundle("B9 1F 10 00 00 83 E1 E0 FF E1");
        y.look();
        y.begin(false);
        C.due("run(3)", y.run(3), 3);
        C.due("back at the BUNDLE's beginning", y.told(1), 0x1000);
    }

    private static void refusals() {
        // what is named first, when several would do
        BundleFence x = new BundleFence();
        C.refused("run(-1) without a run", IllegalArgumentException.class, () -> x.run(-1));
        C.refused("run(10001) without a run", IllegalArgumentException.class, () -> x.run(10001));
        C.refused("run(10000) without a run", IllegalStateException.class, () -> x.run(10000));
        C.refused("put(-1) without a run", IndexOutOfBoundsException.class, () -> x.put(-1, 0));
        C.refused("poke", IllegalArgumentException.class, () -> x.poke(0, -1));
    }
}
