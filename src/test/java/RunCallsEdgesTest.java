/** Promises 14 to 20 and 22: the calls round a run at their edges. */
public final class RunCallsEdgesTest {
    private static final Check C = new Check("RunCallsEdgesTest");
    private static final int LEAST = Integer.MIN_VALUE;
    private static final int MOST = Integer.MAX_VALUE;

    public static void main(String[] args) {
        runBeginsSo();
        promise14BeginsAnew();
        promise14NeedsAValidImage();
        promise14NeedsAnImage();
        promise14InEachState();
        promise15DoesAtMostN();
        promise15RefusesOtherN();
        promise15NeedsARun();
        promise15OnlyInState1();
        promise15WakesWithZero();
        promise15NotBeforeTheFirstStep();
        promise15NotBehindTheLastStep();
        promise15BreakpointsAnywhere();
        promise16PlacesAtTheEdges();
        promise16Stays();
        promise17Before();
        promise17RefusesOthers();
        promise17TellsFlags();
        promise17StaysWhenItIsOver();
        promise18CountsSteps();
        theLastOf512Calls();
        promise19RegistersAtTheEdges();
        promise20PutsInARun();
        promise20AnswersWhatWasThere();
        promise22CountsInstructions();
        promise22PlacesAtTheEdges();
        C.end();
    }

    private static void runBeginsSo() {
        C.says("6 RUNNING", "A run begins with registers 0 but esp 0x20000, EIP 0x1000, FLAGS 0, and no STEPS.");
        for (int state = 1; state <= 8; state++) {
            BundleFence x = States.in(state);
            x.put(4, 1);
            x.put(7, 5);
            x.begin(true);
            atTheBeginning(x, 1);
        }
    }

    private static void atTheBeginning(BundleFence x, int state) {
        int[] told = {state, 0x1000, 0, 0, 0, 0x10000, 0, 0};
        for (int k = 0; k < 8; k++) {
            C.due("told(" + k + ")", x.told(k), told[k]);
            C.due("register(" + k + ")", x.register(k), k == 4 ? 0x20000 : 0);
        }
        C.due("steps()", x.steps(), 0);
        for (int place : new int[] {0, 1, 2, 5, 31, 2047}) {
            C.due("passed(" + place + ")", x.passed(place), 0);
        }
        C.due("output(0)", x.output(0), -1);
    }

    /** stc; then WRITE, BREAK, SEED and LEAVE, each by a call that ends its BUNDLE. */
    private static BundleFence worker() {
        StringBuilder hex = new StringBuilder("F9 90 BB 05 00 01 00 B9 03 00 00 00 " + Fences.nops(15));
        int[] gates = {1, 4, 5, 0};
        for (int i = 0; i < 4; i++) {
            hex.append("E8 ").append(Fences.le(Fences.gate(gates[i]) - (0x1020 + 32 * i))).append(' ');
            hex.append(i < 3 ? Fences.nops(27) : Fences.filled("", 32));
        }
        return Fences.of(hex.toString());
    }

    private static void promise14BeginsAnew() {
        C.says("Promise 14", "A run begins (DATA and INPUT as they are, an empty OUTPUT; BREAK, SEED as at first; no place was "
            + "passed).");
        BundleFence x = worker();
        C.due("look()", x.look() > 0, true);
        x.begin(false);
        x.give(3, 7);
        x.poke(0x10005, 0x66);
        C.due("run(10000)", x.run(10000) > 0, true);
        int[] told = {2, 0x400, 0x10005, 3, 3, 0x10005, 12345, 1};
        for (int k = 0; k < 8; k++) {
            C.due("told(" + k + ") at the end", x.told(k), told[k]);
        }
        C.due("output(0)", x.output(0), 0x66);
        C.due("passed(0)", x.passed(0), 1);
        x.begin(false);
        C.due("INPUT as it is", x.told(4), 3);
        C.due("DATA as they are", x.peek(0x10005), 0x66);
        C.due("what was pushed, too", x.peek(0x1FFFC), 0x80);
        C.due("STATE", x.told(0), 1);
        C.due("told(2)", x.told(2), 0);
        C.due("OUTPUT", x.told(3), 0);
        C.due("output(0)", x.output(0), -1);
        C.due("BREAK", x.told(5), 0x10000);
        C.due("SEED", x.told(6), 0);
        C.due("FLAGS", x.told(7), 0);
        for (int place = 0; place < 128; place++) {
            C.due("passed(" + place + ")", x.passed(place), 0);
        }
    }

    private static void promise14NeedsAValidImage() {
        C.says("Promise 14", "IllegalStateException: the image is not looked through and VALID, and anyway is false; or it is empty.");
        BundleFence x = Fences.bundle("");
        C.refused("begin(false), not looked through", IllegalStateException.class, () -> x.begin(false));
        C.due("begin(true), not looked through", Check.thrownBy(() -> x.begin(true)), "nothing");
        x.look();
        C.due("begin(false), VALID", Check.thrownBy(() -> x.begin(false)), "nothing");
        C.due("begin(true), VALID", Check.thrownBy(() -> x.begin(true)), "nothing");
        BundleFence bad = Fences.looked("88 00", 32);
        C.refused("begin(false), with a fault", IllegalStateException.class, () -> bad.begin(false));
        C.due("STATE", bad.told(0), 0);
        C.due("begin(true), with a fault", Check.thrownBy(() -> bad.begin(true)), "nothing");
        C.due("STATE", bad.told(0), 1);
        BundleFence odd = Fences.of("90");
        C.refused("begin(false) of one byte", IllegalStateException.class, () -> odd.begin(false));
        C.due("begin(true) of one byte", Check.thrownBy(() -> odd.begin(true)), "nothing");
        // a refused begin leaves the run that there is
        bad.put(1, 6);
        C.refused("begin(false), in a run", IllegalStateException.class, () -> bad.begin(false));
        C.due("STATE", bad.told(0), 1);
        C.due("ecx", bad.register(1), 6);
    }

    private static void promise14NeedsAnImage() {
        C.says("Promise 14", "or it is empty");
        BundleFence none = new BundleFence();
        for (int i = 0; i < 2; i++) {
            C.refused("begin(true) of an empty one", IllegalStateException.class, () -> none.begin(true));
            C.refused("begin(false) of an empty one", IllegalStateException.class, () -> none.begin(false));
            C.due("STATE", none.told(0), 0);
            none.look();
        }
        BundleFence wiped = Fences.looked("", 32);
        wiped.begin(false);
        wiped.run(3);
        wiped.wipe();
        C.refused("begin(true) of a wiped one", IllegalStateException.class, () -> wiped.begin(true));
        C.refused("begin(false) of a wiped one", IllegalStateException.class, () -> wiped.begin(false));
        C.due("EIP of the run begun last", wiped.told(1), 0x1003);
        C.due("steps() of the run begun last", wiped.steps(), 3);
    }

    private static void promise14InEachState() {
        C.says("6 RUNNING", "Its STATE: 0 none was begun, 1 GOES ON, 2 LEFT, 3 HALTED, 4 TRAPPED, 5 FENCED, 6 ESCAPED, 7 PAUSED, 8 "
            + "at a BREAK.");
        C.due("STATE before the first run", Fences.bundle("").told(0), 0);
        for (int state = 1; state <= 8; state++) {
            BundleFence x = States.in(state);
            C.due("STATE", x.told(0), state);
            x.begin(true);
            C.due("STATE behind begin() in STATE " + state, x.told(0), 1);
            x.stop(2, state == 8);
            States.start(x, state);
            C.due("STATE once more", x.told(0), state);
        }
    }

    private static void promise15DoesAtMostN() {
        C.says("Promise 15", "At most n STEPS, as long as the STATE is 1");
        BundleFence x = Fences.of("EB FE");
        x.begin(true);
        long all = 0;
        for (int n : new int[] {0, 1, 2, 9999, 10000, 0, 10000}) {
            C.due("run(" + n + ")", x.run(n), n);
            all += n;
            C.due("steps()", x.steps(), all);
            C.due("passed(0)", x.passed(0), all);
            C.due("STATE", x.told(0), 1);
        }
        C.says("Promise 15", "Answers how many were done.");
        BundleFence halts = Fences.of(Fences.filled("", 5));
        for (int n = 0; n < 8; n++) {
            halts.begin(true);
            C.due("run(" + n + ") of 5", halts.run(n), Math.min(n, 5));
            C.due("STATE", halts.told(0), n < 5 ? 1 : 3);
            C.due("EIP", halts.told(1), 0x1000 + Math.min(n, 5));
        }
        // of a STEP that can't be done
        for (int state = 4; state <= 6; state++) {
            BundleFence y = Fences.bundle(States.program(state));
            y.begin(true);
            C.due("run(2)", y.run(2), 1);
            C.due("STATE", y.told(0), state);
            C.due("steps()", y.steps(), 1);
        }
    }

    private static void promise15RefusesOtherN() {
        C.says("Promise 15", "IllegalArgumentException: n is not 0 to 10000.");
        for (int state = 0; state <= 8; state++) {
            BundleFence x = state == 0 ? new BundleFence() : States.in(state);
            for (int n : new int[] {-1, 10001, LEAST, MOST, -10000, 65536}) {
                C.refused("run(" + n + ") in STATE " + state, IllegalArgumentException.class, () -> x.run(n));
                C.due("STATE", x.told(0), state);
            }
        }
    }

    private static void promise15NeedsARun() {
        C.says("Promise 15", "IllegalStateException: the STATE is 0.");
        BundleFence x = Fences.looked("", 32);
        for (int n : new int[] {0, 1, 10000}) {
            C.refused("run(" + n + ") before the first run", IllegalStateException.class, () -> x.run(n));
        }
        x.begin(false);
        C.due("run(10000)", x.run(10000), 32);
        C.due("run(0) when HALTED", x.run(0), 0);
        x.feed(1, 0x90);
        for (int n : new int[] {0, 1, 10000}) {
            C.refused("run(" + n + ") when it is over", IllegalStateException.class, () -> x.run(n));
        }
        C.refused("run(10001) when it is over", IllegalArgumentException.class, () -> x.run(10001));
        C.refused("run(-1) when it is over", IllegalArgumentException.class, () -> x.run(-1));
    }

    private static void promise15OnlyInState1() {
        C.says("Promise 15", "as long as the STATE is 1 (7 and 8 become 1 first, with n 0, too)");
        for (int state = 2; state <= 6; state++) {
            BundleFence x = States.in(state);
            long steps = x.steps();
            int eip = x.told(1);
            for (int n : new int[] {0, 1, 10000}) {
                C.due("run(" + n + ") in STATE " + state, x.run(n), 0);
                C.due("STATE", x.told(0), state);
                C.due("EIP", x.told(1), eip);
                C.due("steps()", x.steps(), steps);
            }
        }
    }

    private static void promise15WakesWithZero() {
        C.says("Promise 15", "7 and 8 become 1 first, with n 0, too");
        for (int state = 7; state <= 8; state++) {
            BundleFence x = States.in(state);
            int eip = x.told(1);
            C.due("run(0)", x.run(0), 0);
            C.due("STATE behind run(0) in STATE " + state, x.told(0), 1);
            C.due("EIP", x.told(1), eip);
            BundleFence y = States.in(state);
            C.due("run(1)", y.run(1), 1);
            C.due("STATE behind run(1) in STATE " + state, y.told(0), 1);
            BundleFence z = States.in(state);
            C.refused("run(-1)", IllegalArgumentException.class, () -> z.run(-1));
            C.due("STATE behind a refused run", z.told(0), state);
        }
        // what can't be done comes behind the waking
        BundleFence x = States.in(8);
        x.stop(3, true);
        C.due("run(9) from BREAK to BREAK", x.run(9), 1);
        C.due("STATE", x.told(0), 8);
        C.due("EIP", x.told(1), 0x1003);
    }

    private static void promise15NotBeforeTheFirstStep() {
        C.says("Promise 15", "Before a STEP, but not before the first one of this call, at an EIP with a BREAKPOINT: 8");
        BundleFence x = Fences.of("90 90 EB FD");
        x.stop(0, true);
        x.stop(1, true);
        x.begin(true);
        C.due("run(5) from a BREAKPOINT", x.run(5), 1);
        C.due("STATE", x.told(0), 8);
        C.due("EIP", x.told(1), 0x1001);
        C.due("run(5) from the next one", x.run(5), 2);
        C.due("EIP", x.told(1), 0x1001);
        C.due("run(1), a STEP a call", x.run(1), 1);
        C.due("STATE", x.told(0), 1);
        C.due("run(1) to the BREAKPOINT", x.run(1), 1);
        C.due("EIP", x.told(1), 0x1001);
        C.due("STATE", x.told(0), 1);
        C.due("run(2) round to it", x.run(2), 2);
        C.due("STATE behind the last of two", x.told(0), 1);
        C.due("run(3) round to it", x.run(3), 2);
        C.due("STATE", x.told(0), 8);
        // a BREAKPOINT where a STEP can't be done stops ahead of it
        for (int state = 4; state <= 6; state++) {
            BundleFence y = Fences.bundle(States.program(state));
            y.stop(1, true);
            y.begin(true);
            C.due("run(9)", y.run(9), 1);
            C.due("STATE", y.told(0), 8);
            C.due("run(9) again", y.run(9), 0);
            C.due("STATE", y.told(0), state);
        }
    }

    private static void promise15NotBehindTheLastStep() {
        C.says("Promise 15", "(behind the last of n STEPS it is not looked at)");
        BundleFence x = Fences.of(Fences.filled("", 32));
        x.stop(3, true);
        for (int n = 0; n < 6; n++) {
            x.begin(true);
            C.due("run(" + n + ")", x.run(n), Math.min(n, 3));
            C.due("STATE behind run(" + n + ")", x.told(0), n <= 3 ? 1 : 8);
            C.due("EIP", x.told(1), 0x1000 + Math.min(n, 3));
        }
        // behind a hlt the run is HALTED, whatever is there
        BundleFence y = Fences.of("F4 90");
        y.stop(1, true);
        y.begin(true);
        C.due("run(9) to hlt", y.run(9), 1);
        C.due("STATE", y.told(0), 3);
        C.due("run(9) again", y.run(9), 0);
        C.due("STATE", y.told(0), 3);
        // the same with a PAUSE that leads to a BREAKPOINT
        BundleFence z = Fences.atGate(7);
        z.stop(0, true);
        C.due("run(9) to the PAUSE", z.run(9), 1);
        C.due("STATE", z.told(0), 7);
        C.due("run(9) from it", z.run(9), 2);
        C.due("STATE", z.told(0), 7);
    }

    private static void promise15BreakpointsAnywhere() {
        C.says("Promise 15", "at an EIP with a BREAKPOINT: 8");
        // a service leads to it
        BundleFence x = Fences.atGate(9);
        x.stop(0, true);
        C.due("run(9)", x.run(9), 1);
        C.due("STATE", x.told(0), 8);
        C.due("EIP", x.told(1), 0x1000);
        // at a gate there is none: addresses are no places
        BundleFence y = Fences.atGate(9);
        y.stop(Fences.gate(9), true);
        y.begin(true);
        C.due("run(6) over a gate", y.run(6), 6);
        C.due("STATE", y.told(0), 1);
        // at the image's last place, and at the first one
        BundleFence full = Fences.of("E9 FA 07 00 00 " + Fences.filled("", 2043));
        full.stop(2047, true);
        full.begin(true);
        C.due("run(9) to the last place", full.run(9), 1);
        C.due("STATE", full.told(0), 8);
        C.due("EIP", full.told(1), 0x17FF);
        C.due("run(9) from it", full.run(9), 1);
        C.due("STATE", full.told(0), 3);
        // in the midst of an instruction it is not met
        BundleFence midst = Fences.bundle("B8 00 00 00 00 F4");
        midst.stop(1, true);
        midst.stop(4, true);
        midst.begin(true);
        C.due("run(9) over an instruction", midst.run(9), 2);
        C.due("STATE", midst.told(0), 3);
        // none at the far side of 32 bits: place -1 and place 2048
        BundleFence far = Fences.of("FF E1");
        for (int eip : new int[] {0xFFF, 0x1800, 0x1801, 0x10000, MOST, LEAST, -1, 0x80001000, 0x80001800}) {
            far.begin(true);
            far.put(1, eip);
            C.due("run(9)", far.run(9), 1);
            C.due("STATE", far.told(0), 5);
        }
    }

    private static void promise16PlacesAtTheEdges() {
        C.says("Promise 16", "IllegalArgumentException: place is not 0 to 2047.");
        BundleFence x = new BundleFence();
        for (int p : new int[] {-1, 2048, LEAST, MOST, 0x1000, 0x17FF, -2048}) {
            C.refused("stop(" + p + ", true)", IllegalArgumentException.class, () -> x.stop(p, true));
            C.refused("stop(" + p + ", false)", IllegalArgumentException.class, () -> x.stop(p, false));
        }
        for (int p : new int[] {0, 1, 2046, 2047}) {
            C.due("stop(" + p + ", false)", x.stop(p, false), false);
            C.due("stop(" + p + ", true)", x.stop(p, true), false);
            C.due("stop(" + p + ", true) again", x.stop(p, true), true);
            C.due("stop(" + p + ", false)", x.stop(p, false), true);
            C.due("stop(" + p + ", false) again", x.stop(p, false), false);
        }
        x.stop(1, true);
        C.due("stop(0, false)", x.stop(0, false), false);
        C.due("stop(2, false)", x.stop(2, false), false);
        C.due("stop(1, false)", x.stop(1, false), true);
    }

    private static void promise16Stays() {
        C.says("Promise 16", "A BREAKPOINT at a place, or none any more (it stays when images are fed, wiped, and runs begun).");
        BundleFence x = new BundleFence();
        x.stop(1, true);
        x.stop(2047, true);
        Fences.load(x, Fences.filled("", 32));
        x.look();
        x.begin(false);
        C.due("run(9)", x.run(9), 1);
        C.due("STATE", x.told(0), 8);
        x.begin(true);
        C.due("run(9) of a new run", x.run(9), 1);
        C.due("STATE", x.told(0), 8);
        x.feed(1, 0x90);
        x.begin(true);
        C.due("run(9) of an image fed", x.run(9), 1);
        Fences.load(x, "90 90 90");
        x.begin(true);
        C.due("run(9) of another image", x.run(9), 1);
        C.due("STATE", x.told(0), 8);
        x.wipe();
        C.due("stop(1, false)", x.stop(1, false), true);
        C.due("stop(2047, true)", x.stop(2047, true), true);
        Fences.load(x, Fences.filled("", 3));
        x.begin(true);
        C.due("run(9) without it", x.run(9), 3);
        C.due("stop(2047, false)", x.stop(2047, false), true);
    }

    private static void promise17Before() {
        C.says("Promise 17", "Of the run begun last (also when it is over; before the first one all as when one begins)");
        BundleFence x = new BundleFence();
        atTheBeginning(x, 0);
        x.feed(1, 0xF4);
        atTheBeginning(x, 0);
        x.look();
        atTheBeginning(x, 0);
    }

    private static void promise17RefusesOthers() {
        C.says("Promise 17", "IllegalArgumentException: another what.");
        for (int state = 0; state <= 8; state++) {
            BundleFence x = state == 0 ? new BundleFence() : States.in(state);
            for (int what : new int[] {-1, 8, LEAST, MOST, 64, 256}) {
                C.refused("told(" + what + ")", IllegalArgumentException.class, () -> x.told(what));
            }
            C.due("told(0)", x.told(0), state);
            C.due("told(7) is one", Check.thrownBy(() -> x.told(7)), "nothing");
        }
    }

    private static void promise17TellsFlags() {
        C.says("Promise 17", "FLAGS (7: CF 1, PF 4, ZF 64, SF 128, OF 2048 together)");
        String[] flags = {"", "C", "P", "PZ", "S", "SO", "CPZO", "CPSO"};
        int[] want = {0, 1, 4, 68, 128, 2176, 2117, 2181};
        for (int i = 0; i < flags.length; i++) {
            C.due("FLAGS " + flags[i], Steps.ready("90", "f=" + flags[i]).told(7), want[i]);
        }
        // bsf brings ZF without PF; a trap leaves what is there
        BundleFence x = Steps.ready("0F BC C1", "ecx=0 f=");
        x.run(1);
        C.due("ZF alone", x.told(7), 64);
    }

    private static void promise17StaysWhenItIsOver() {
        C.says("Promise 17", "the STATE (what = 0), EIP (1), what it LEFT with (2; 0 as long as it did not), how many bytes OUTPUT has "
            + "(3), INPUT (4; that still wait), the BREAK (5), the SEED (6)");
        for (boolean wipes : new boolean[] {false, true}) {
            BundleFence x = worker();
            x.begin(true);
            x.give(3, 7);
            x.run(10000);
            long steps = x.steps();
            int esp = x.register(4);
            if (wipes) {
                x.wipe();
            } else {
                x.feed(1, 0x90);
            }
            int[] told = {0, 0x400, 0x10005, 3, 3, 0x10005, 12345, 1};
            for (int k = 0; k < 8; k++) {
                C.due("told(" + k + ") when it is over", x.told(k), told[k]);
            }
            C.due("steps() when it is over", x.steps(), steps);
            C.due("register(4) when it is over", x.register(4), esp);
            C.due("register(3) when it is over", x.register(3), 0x10005);
            C.due("passed(0) when it is over", x.passed(0), 1);
            C.due("output(2) when it is over", x.output(2), 0);
            // give() and DATA are of no run
            C.due("give(1)", x.give(1, 0), 4);
            C.due("told(4)", x.told(4), 4);
        }
        for (int state = 3; state <= 8; state++) {
            C.due("told(2) in STATE " + state, States.in(state).told(2), 0);
        }
        C.due("told(2) in STATE 2", States.in(2).told(2), 0x77);
    }

    private static void promise18CountsSteps() {
        C.says("Promise 18", "How many STEPS were done in the run begun last.");
        int[] want = {0, 2, 3, 2, 1, 1, 1, 3, 2};
        for (int state = 1; state <= 8; state++) {
            BundleFence x = States.in(state);
            C.due("steps() in STATE " + state, x.steps(), want[state]);
            x.run(0);
            C.due("steps() behind run(0)", x.steps(), want[state]);
            x.begin(true);
            C.due("steps() of a new run", x.steps(), 0);
        }
        C.due("steps() before the first run", new BundleFence().steps(), 0);
    }

    private static void theLastOf512Calls() {
        C.says("What it is", "An object is used for at most 512 calls after it has been made");
        BundleFence x = new BundleFence();
        x.feed(2, 0xFEEB);
        x.begin(true);
        for (int i = 0; i < 509; i++) {
            x.run(10000);
        }
        C.due("steps() as the 512th call", x.steps(), 5090000L);
        BundleFence y = new BundleFence();
        y.feed(2, 0xFEEB);
        y.begin(true);
        for (int i = 0; i < 509; i++) {
            y.run(10000);
        }
        C.due("passed(0) as the 512th call", y.passed(0), 5090000L);
    }

    private static void promise19RegistersAtTheEdges() {
        C.says("Promise 19", "Register k, of the run begun last. IndexOutOfBoundsException: there is none.");
        for (int state = 0; state <= 8; state++) {
            BundleFence x = state == 0 ? new BundleFence() : States.in(state);
            for (int k : new int[] {-1, 8, LEAST, MOST, 16, -8}) {
                C.refused("register(" + k + ")", IndexOutOfBoundsException.class, () -> x.register(k));
            }
            C.due("register(7)", x.register(7), 0);
            C.due("register(3)", x.register(3), state == 0 ? 0 : 0x77);
        }
    }

    private static void promise20PutsInARun() {
        C.says("Promise 20", "IndexOutOfBoundsException: there is none. IllegalStateException: the STATE is 0.");
        BundleFence none = Fences.looked("", 32);
        for (int k = 0; k < 8; k++) {
            int r = k;
            C.refused("put(" + k + ") before the first run", IllegalStateException.class, () -> none.put(r, 1));
            C.due("register(" + k + ") behind it", none.register(k), k == 4 ? 0x20000 : 0);
        }
        for (int k : new int[] {-1, 8, LEAST, MOST}) {
            C.refused("put(" + k + ") before the first run", IndexOutOfBoundsException.class, () -> none.put(k, 1));
        }
        for (int state = 1; state <= 8; state++) {
            BundleFence x = States.in(state);
            for (int k : new int[] {-1, 8, LEAST, MOST}) {
                C.refused("put(" + k + ") in STATE " + state, IndexOutOfBoundsException.class, () -> x.put(k, 1));
            }
            C.due("put(7) in STATE " + state, x.put(7, 9), 0);
            C.due("register(7)", x.register(7), 9);
            C.due("STATE", x.told(0), state);
            x.wipe();
            C.refused("put(7) when it is over", IllegalStateException.class, () -> x.put(7, 1));
            C.refused("put(8) when it is over", IndexOutOfBoundsException.class, () -> x.put(8, 1));
            C.due("register(7) when it is over", x.register(7), 9);
        }
    }

    private static void promise20AnswersWhatWasThere() {
        C.says("Promise 20", "Register k becomes v. Answers what it was.");
        BundleFence x = Fences.bundle("40");
        x.begin(true);
        for (int k = 0; k < 8; k++) {
            C.due("put(" + k + ", -1)", x.put(k, -1), k == 4 ? 0x20000 : 0);
        }
        // what was there is -1, and it changes nevertheless
        for (int k = 0; k < 8; k++) {
            C.due("put(" + k + ") of what is -1", x.put(k, LEAST + k), -1);
            C.due("register(" + k + ")", x.register(k), LEAST + k);
        }
        x.put(0, -1);
        x.run(1);
        C.due("eax behind inc", x.put(0, MOST), 0);
        C.due("FLAGS stay", x.told(7), 68);
        C.due("EIP stays", x.told(1), 0x1001);
    }

    private static void promise22CountsInstructions() {
        C.says("Promise 22", "How often the instruction at a place was done as a STEP in the run begun last.");
        BundleFence x = Fences.bundle("B9 03 00 00 00 E2 FE");
        x.begin(true);
        x.run(10000);
        int[] want = {1, 0, 0, 0, 0, 3, 0, 1, 1};
        for (int p = 0; p < want.length; p++) {
            C.due("passed(" + p + ")", x.passed(p), want[p]);
        }
        C.due("passed(31), the hlt", x.passed(31), 1);
        C.due("passed(32)", x.passed(32), 0);
        // what can't be done is none, and a service is none of an instruction
        for (int state = 4; state <= 6; state++) {
            BundleFence y = States.in(state);
            y.run(9);
            C.due("passed(0) in STATE " + state, y.passed(0), 1);
            C.due("passed(1) in STATE " + state, y.passed(1), 0);
        }
        BundleFence z = Fences.atGate(8);
        z.run(9);
        C.due("passed(0) with services", z.passed(0), 5);
        C.due("steps() with services", z.steps(), 10);
        int all = 0;
        for (int p = 0; p < 400; p++) {
            all += z.passed(p);
        }
        C.due("all passed", all, 5);
    }

    private static void promise22PlacesAtTheEdges() {
        C.says("Promise 22", "IllegalArgumentException: place is not 0 to 2047.");
        for (int state = 0; state <= 8; state++) {
            BundleFence x = state == 0 ? new BundleFence() : States.in(state);
            for (int p : new int[] {-1, 2048, LEAST, MOST, 0x1000}) {
                C.refused("passed(" + p + ")", IllegalArgumentException.class, () -> x.passed(p));
            }
            C.due("passed(0)", x.passed(0), state == 0 ? 0 : 1);
            C.due("passed(2047)", x.passed(2047), 0);
        }
        BundleFence full = Fences.of("E9 FA 07 00 00 " + Fences.filled("", 2043));
        full.begin(true);
        full.run(9);
        C.due("passed(2047) of a full image", full.passed(2047), 1);
        C.due("passed(2046) of a full image", full.passed(2046), 0);
        full.begin(true);
        C.due("passed(2047) of a new run", full.passed(2047), 0);
    }
}
