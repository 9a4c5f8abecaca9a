/** Promises 4 to 7: what the calls round a look answer at their edges. */
public final class LookCallsEdgesTest {
    private static final Check C = new Check("LookCallsEdgesTest");
    private static final int LEAST = Integer.MIN_VALUE;
    private static final int MOST = Integer.MAX_VALUE;
    /** One image for each fault, 1 to 8, and the fault's place. */
    private static final String[] FAULTY = {Fences.nops(31), Fences.filled("90 06", 32),
        Fences.filled(Fences.nops(31) + "6A 00", 64), Fences.filled("90 FF E0", 32), Fences.filled("90 90 88 00", 32),
        Fences.filled("90 90 90 44", 32), Fences.filled("EB 7F", 32), Fences.nops(32)};
    private static final int[] PLACES = {0, 1, 31, 1, 2, 3, 0, 31};

    public static void main(String[] args) {
        promise4CountsInstructions();
        promise4AnswersNone();
        promise5TellsTheFault();
        promise5IsOfTheLastLook();
        promise6TellsThePlace();
        promise7TellsWhatBegins();
        promise7IsNoneOutside();
        promise7IsOfThisImage();
        promise7IsNoneWithoutAValidImage();
        lookChangesNoRun();
        C.end();
    }

    private static void promise4CountsInstructions() {
        C.says("Promise 4", "Answers how many instructions it has, if it is VALID");
        C.due("32 of a byte", Fences.bundle("").look(), 32);
        C.due("2048 of a byte", Fences.of(Fences.filled("", 2048)).look(), 2048);
        String longest = "C7 84 24 00 01 00 00 00 00 00 80 ";
        C.due("three and a half", Fences.of(longest + longest + "B8 00 00 00 00 E9 FB FF FF FF").look(), 4);
        String bundle = longest + longest + "B8 00 00 00 00 B8 00 00 00 00 ";
        C.due("four in each", Fences.of(bundle.repeat(63) + longest + longest + "B8 00 00 00 00 E9 FB FF FF FF").look(), 256);
        // the instructions of a UNIT count, each
        C.due("a JUMP UNIT", Fences.bundle("83 E0 E0 FF E0").look(), 2 + 27);
        BundleFence x = Fences.bundle("");
        C.due("look()", x.look(), 32);
        C.due("look() again", x.look(), 32);
    }

    private static void promise4AnswersNone() {
        C.says("Promise 4", "NONE when there is a fault.");
        for (int f = 1; f <= 8; f++) {
            BundleFence x = Fences.of(FAULTY[f - 1]);
            C.due("look() with fault " + f, x.look(), -1);
            C.due("look() again", x.look(), -1);
        }
        BundleFence none = new BundleFence();
        C.due("look() at an empty image", none.look(), -1);
        C.due("fault()", none.fault(), 1);
        C.due("place()", none.place(), 0);
    }

    private static void promise5TellsTheFault() {
        C.says("Promise 5", "The fault that the last look() at this image met, 1 to 8; 0 when it met none, or there was none.");
        for (int f = 1; f <= 8; f++) {
            BundleFence x = Fences.of(FAULTY[f - 1]);
            C.due("fault() before look()", x.fault(), 0);
            C.due("place() before look()", x.place(), -1);
            x.look();
            C.due("fault()", x.fault(), f);
            C.due("fault() again", x.fault(), f);
            x.begin(true);
            C.due("fault() behind begin(true)", x.fault(), f);
        }
        BundleFence valid = Fences.looked("", 32);
        C.due("fault() of a VALID one", valid.fault(), 0);
    }

    private static void promise5IsOfTheLastLook() {
        C.says("Promise 5", "the last look() at this image");
        for (int f = 1; f <= 8; f++) {
            BundleFence x = Fences.of(FAULTY[f - 1]);
            x.look();
            int had = x.wipe();
            C.due("fault() behind wipe()", x.fault(), 0);
            C.due("place() behind wipe()", x.place(), -1);
            C.due("bytes", had, Fences.bytes(FAULTY[f - 1]).length);
            Fences.load(x, Fences.filled("", 32));
            x.look();
            C.due("fault() of a VALID one", x.fault(), 0);
            C.due("place() of a VALID one", x.place(), -1);
            Fences.load(x, FAULTY[f - 1]);
            C.due("fault() behind feed()", x.fault(), 0);
            x.look();
            C.due("fault()", x.fault(), f);
            C.due("place()", x.place(), PLACES[f - 1]);
        }
        BundleFence full = Fences.of(Fences.nops(2048));
        full.look();
        full.feed(1, 0);
        C.due("fault() behind a refused feed", full.fault(), 8);
        C.due("place() behind a refused feed", full.place(), 2047);
    }

    private static void promise6TellsThePlace() {
        C.says("Promise 6", "The place of that fault; NONE when there is none.");
        for (int f = 1; f <= 8; f++) {
            BundleFence x = Fences.of(FAULTY[f - 1]);
            C.due("place() before look()", x.place(), -1);
            x.look();
            C.due("place() of fault " + f, x.place(), PLACES[f - 1]);
        }
        BundleFence last = Fences.of(Fences.nops(2047) + "06");
        last.look();
        C.due("fault() at the last place", last.fault(), 2);
        C.due("place() at the last place", last.place(), 2047);
        C.due("place() of a VALID one", Fences.looked("", 32).place(), -1);
        C.due("place() of a new object", new BundleFence().place(), -1);
    }

    private static void promise7TellsWhatBegins() {
        C.says("Promise 7", "0 no instruction begins there, 1 a UNIT, 2 another instruction of one.");
        BundleFence x = Fences.looked("B8 40 40 40 40 83 E0 E0 FF D0", 32);
        String want = "1000010020";
        for (int i = 0; i < 32; i++) {
            C.due("unit(" + i + ")", x.unit(i), i < 10 ? want.charAt(i) - '0' : 1);
        }
        BundleFence full = Fences.looked(Fences.nops(2042) + "B8 00 00 00 00", 2048);
        C.due("unit(2042)", full.unit(2042), 1);
        C.due("unit(2043)", full.unit(2043), 0);
        C.due("unit(2046)", full.unit(2046), 0);
        C.due("unit(2047)", full.unit(2047), 1);
    }

    private static void promise7IsNoneOutside() {
        C.says("Promise 7", "NONE when it is not so, or there is no such place.");
        BundleFence x = Fences.looked("", 32);
        C.due("unit(0)", x.unit(0), 1);
        C.due("unit(31)", x.unit(31), 1);
        for (int p : new int[] {-1, 32, 33, 2047, 2048, 0x1000, LEAST, MOST, LEAST + 1}) {
            C.due("unit(" + p + ")", x.unit(p), -1);
        }
        BundleFence full = Fences.looked("", 2048);
        C.due("unit(2047) of a full one", full.unit(2047), 1);
        C.due("unit(2048) of a full one", full.unit(2048), -1);
        // a shorter image behind a longer one
        BundleFence y = Fences.looked("", 64);
        Fences.load(y, Fences.filled("", 32));
        y.look();
        C.due("unit(31) of the shorter one", y.unit(31), 1);
        C.due("unit(32) of the shorter one", y.unit(32), -1);
    }

    private static void promise7IsOfThisImage() {
        C.says("Promise 7", "What is at a place of an image that was looked through and is VALID");
        BundleFence x = Fences.looked("", 64);
        C.due("unit(1)", x.unit(1), 1);
        Fences.load(x, Fences.filled("B8 90 90 90 90 83 E0 E0 FF E0", 32));
        C.due("look() at another image", x.look(), 3 + 22);
        String want = "1000010020";
        for (int i = 0; i < 32; i++) {
            C.due("unit(" + i + ") of another image", x.unit(i), i < 10 ? want.charAt(i) - '0' : 1);
        }
        // a jump to where the longer image had a UNIT, and the midst of a mov that had one
        for (String hex : new String[] {"EB 1E", "90 B8 00 00 00 00 EB FB"}) {
            BundleFence y = Fences.looked("", 64);
            Fences.load(y, Fences.filled(hex, 32));
            C.due("look() behind a longer image", y.look(), -1);
            C.due("fault()", y.fault(), 7);
            C.due("place()", y.place(), Fences.bytes(hex).length - 2);
        }
    }

    private static void promise7IsNoneWithoutAValidImage() {
        C.says("Promise 7", "an image that was looked through and is VALID");
        BundleFence x = Fences.bundle("");
        C.due("unit(0) before look()", x.unit(0), -1);
        x.look();
        C.due("unit(0)", x.unit(0), 1);
        x.begin(false);
        x.run(5);
        C.due("unit(0) in a run", x.unit(0), 1);
        x.feed(8, 0);
        C.due("unit(0) behind feed()", x.unit(0), -1);
        for (int f = 1; f <= 8; f++) {
            BundleFence y = Fences.of(FAULTY[f - 1]);
            y.look();
            C.due("unit(0) with fault " + f, y.unit(0), -1);
            C.due("unit(2) with fault " + f, y.unit(2), -1);
            C.refused("begin(false) with fault " + f, IllegalStateException.class, () -> y.begin(false));
        }
        C.due("unit(0) of an empty one", new BundleFence().unit(0), -1);
    }

    private static void lookChangesNoRun() {
        C.says("6 RUNNING", "of a VALID one that was looked through before this STEP, also when the run was begun anyway or "
            + "ahead of that");
        for (int state = 1; state <= 8; state++) {
            BundleFence x = States.in(state);
            int eip = x.told(1);
            x.look();
            C.due("STATE behind look()", x.told(0), state);
            C.due("EIP behind look()", x.told(1), eip);
            C.due("eax behind look()", x.register(3), 0x77);
        }
    }
}
