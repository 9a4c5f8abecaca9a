/** Section 1 and promises 1, 2, 3, 11, 12, 13: the edges of the image, DATA and the INPUT. */
public final class HeldEdgesTest {
    private static final Check C = new Check("HeldEdgesTest");
    private static final long EIGHT = 0x8877665544332211L;
    private static final int LEAST = Integer.MIN_VALUE;
    private static final int MOST = Integer.MAX_VALUE;

    public static void main(String[] args) {
        imageBytesHaveTheirAddresses();
        dataHaveTheirAddresses();
        promise1AllIsEmpty();
        promise1DataAreZero();
        promise2TakesTheLowestBytes();
        promise2RefusesMoreThan2048();
        promise2RefusesOtherN();
        promise2ForgetsTheLook();
        promise2EndsTheRun();
        promise3EmptiesTheImage();
        promise3AnswersWhatItHad();
        promise11PokesDataAlone();
        promise11AnswersWhatItWas();
        promise11RefusesOtherBytes();
        promise12PeeksDataAndImage();
        promise13TakesTheLowestBytes();
        promise13RefusesMoreThan256();
        promise13RefusesOtherN();
        promise13WaitsForReading();
        C.end();
    }

    private static void imageBytesHaveTheirAddresses() {
        C.says("1 PLACES", "THE IMAGE is a row of up to 2048 bytes; its byte i has the address 0x1000 + i");
        BundleFence x = new BundleFence();
        for (int i = 0; i < 2048; i += 8) {
            x.feed(8, (long) i << 16 | (long) i << 48 | 0x11L);
        }
        C.due("byte 0", x.peek(0x1000), 0x11);
        C.due("byte 2047 - 7", x.peek(0x17F8), 0x11);
        C.due("byte 2047 - 5", x.peek(0x17FA), 0xF8);
        C.due("byte 2047 - 4", x.peek(0x17FB), 7);
        C.due("byte 2047 - 1", x.peek(0x17FE), 0xF8);
        C.due("byte 2047", x.peek(0x17FF), 7);
        C.due("behind byte 2047", x.peek(0x1800), -1);
        C.due("before byte 0", x.peek(0xFFF), -1);
    }

    private static void dataHaveTheirAddresses() {
        C.says("1 PLACES", "DATA are the bytes with the addresses 0x10000 .. 0x1FFFF, at first 0.");
        BundleFence x = new BundleFence();
        C.due("poke(0x10000)", x.poke(0x10000, 1), 0);
        C.due("poke(0x1FFFF)", x.poke(0x1FFFF, 2), 0);
        C.due("poke(0x10001)", x.poke(0x10001, 3), 0);
        C.due("peek(0x10000)", x.peek(0x10000), 1);
        C.due("peek(0x1FFFF)", x.peek(0x1FFFF), 2);
        C.due("peek(0xFFFF)", x.peek(0xFFFF), -1);
        C.due("peek(0x20000)", x.peek(0x20000), -1);
        C.refused("poke(0xFFFF)", IllegalArgumentException.class, () -> x.poke(0xFFFF, 1));
        C.refused("poke(0x20000)", IllegalArgumentException.class, () -> x.poke(0x20000, 1));
    }

    private static void promise1AllIsEmpty() {
        C.says("Promise 1", "An empty image, no input, DATA all 0; nothing was looked through, no run was begun.");
        C.due("the image's bytes", new BundleFence().wipe(), 0);
        C.due("the image's first byte", new BundleFence().peek(0x1000), -1);
        C.due("size(0)", new BundleFence().size(0), 0);
        C.due("tell(0)", new BundleFence().tell(0), -1);
        C.due("text(0)", new BundleFence().text(0), 0);
        C.due("what waits in the INPUT", new BundleFence().told(4), 0);
        C.due("give(8)", new BundleFence().give(8, 0), 8);
        BundleFence reader = Fences.atGate(2);
        C.due("READ", Fences.serve(reader, 0x10000, 9), 0);
        C.due("fault()", new BundleFence().fault(), 0);
        C.due("place()", new BundleFence().place(), -1);
        C.due("unit(0)", new BundleFence().unit(0), -1);
        C.refused("begin(false)", IllegalStateException.class, () -> new BundleFence().begin(false));
        C.refused("begin(true)", IllegalStateException.class, () -> new BundleFence().begin(true));
        C.due("STATE", new BundleFence().told(0), 0);
        C.refused("run(0)", IllegalStateException.class, () -> new BundleFence().run(0));
        C.refused("put(0, 0)", IllegalStateException.class, () -> new BundleFence().put(0, 0));
        C.due("output(0)", new BundleFence().output(0), -1);
        BundleFence x = new BundleFence();
        for (int place : new int[] {0, 1, 2046, 2047}) {
            C.due("passed(" + place + ")", x.passed(place), 0);
            C.due("stop(" + place + ")", x.stop(place, false), false);
        }
    }

    private static void promise1DataAreZero() {
        C.says("Promise 1", "DATA all 0");
        int wrong = 0;
        for (int from = 0x10000; from < 0x20000; from += 500) {
            BundleFence x = new BundleFence();
            for (int a = from; a < from + 500 && a < 0x20000; a++) {
                wrong += x.peek(a) == 0 ? 0 : 1;
            }
        }
        C.due("bytes of DATA that are not 0", wrong, 0);
    }

    private static void promise2TakesTheLowestBytes() {
        C.says("Promise 2", "The n lowest bytes of a long, the lowest first, come behind the image");
        for (int n = 1; n <= 8; n++) {
            BundleFence x = new BundleFence();
            C.due("feed(1)", x.feed(1, 0xEE), 1);
            C.due("feed(" + n + ")", x.feed(n, EIGHT), 1 + n);
            C.due("feed(1) behind it", x.feed(1, -1L), 2 + n);
            C.due("byte 0", x.peek(0x1000), 0xEE);
            for (int i = 0; i < n; i++) {
                C.due("byte " + (1 + i) + " of feed(" + n + ")", x.peek(0x1001 + i), 0x11 * (1 + i));
            }
            C.due("the byte behind feed(" + n + ")", x.peek(0x1001 + n), 0xFF);
            C.due("behind the image", x.peek(0x1002 + n), -1);
        }
    }

    private static BundleFence ofSize(int n) {
        return Fences.of(Fences.nops(n));
    }

    private static void promise2RefusesMoreThan2048() {
        C.says("Promise 2", "Answers how many it has; NONE when there would be more than 2048.");
        for (int n = 1; n <= 8; n++) {
            int bytes = n;
            C.due("feed(" + n + ") that fills it", ofSize(2048 - n).feed(bytes, EIGHT), 2048);
            C.due("feed(" + n + ") a byte before", ofSize(2047 - n).feed(bytes, EIGHT), 2047);
            BundleFence x = ofSize(2049 - n);
            C.due("feed(" + n + ") a byte behind", x.feed(bytes, EIGHT), -1);
            C.due("what is there then", x.peek(0x17FF), n == 1 ? 0x90 : -1);
            C.due("the last byte is as it was", x.peek(0x1000 + 2048 - n), 0x90);
            C.due("behind it", x.peek(0x1000 + 2049 - n), -1);
            C.due("how many it has", x.wipe(), 2049 - n);
            BundleFence full = ofSize(2048);
            C.due("feed(" + n + ") of a full one", full.feed(bytes, EIGHT), -1);
            C.due("how many the full one has", full.wipe(), 2048);
            C.due("feed(" + n + ") of the wiped one", full.feed(bytes, EIGHT), n);
        }
    }

    private static void promise2RefusesOtherN() {
        C.says("Promise 2", "IllegalArgumentException: n is not 1 to 8.");
        BundleFence few = ofSize(3);
        BundleFence full = ofSize(2048);
        for (int n : new int[] {0, 9, -1, 16, LEAST, MOST, 1 << 8 | 1, -8}) {
            C.refused("feed(" + n + ")", IllegalArgumentException.class, () -> few.feed(n, EIGHT));
            C.refused("feed(" + n + ") of a full one", IllegalArgumentException.class, () -> full.feed(n, EIGHT));
        }
        C.due("feed(1) behind the refused ones", few.feed(1, EIGHT), 4);
        C.due("feed(8) behind the refused ones", few.feed(8, EIGHT), 12);
        C.due("how many the full one has", full.wipe(), 2048);
    }

    private static void promise2ForgetsTheLook() {
        C.says("Promise 2", "it is not looked through any more, and a run that was begun is over (STATE 0).");
        BundleFence x = Fences.looked("", 32);
        C.due("unit(0) before", x.unit(0), 1);
        x.feed(1, 0x90);
        C.due("unit(0) behind feed(1)", x.unit(0), -1);
        C.refused("begin(false)", IllegalStateException.class, () -> x.begin(false));
        // VALID again, but not looked through
        Fences.feed(x, Fences.bytes(Fences.filled("", 31)));
        C.due("unit(0) with 64 bytes", x.unit(0), -1);
        C.refused("begin(false) with 64 bytes", IllegalStateException.class, () -> x.begin(false));
        C.due("look()", x.look(), 64);
        x.begin(false);
        C.due("STATE", x.told(0), 1);
        BundleFence bad = Fences.looked("90 0F 05", 32);
        C.due("fault() before", bad.fault(), 2);
        C.due("place() before", bad.place(), 1);
        bad.feed(1, 0x90);
        C.due("fault() behind feed(1)", bad.fault(), 0);
        C.due("place() behind feed(1)", bad.place(), -1);
    }

    private static void promise2EndsTheRun() {
        C.says("Promise 2", "a run that was begun is over (STATE 0)");
        for (int state = 1; state <= 8; state++) {
            BundleFence x = States.in(state);
            C.due("STATE before", x.told(0), state);
            int eip = x.told(1);
            long steps = x.steps();
            C.due("feed(1)", x.feed(1, 0x90), 33);
            C.due("STATE behind feed(1) in STATE " + state, x.told(0), 0);
            C.refused("run(0)", IllegalStateException.class, () -> x.run(0));
            C.refused("put(0, 1)", IllegalStateException.class, () -> x.put(0, 1));
            C.due("EIP stays", x.told(1), eip);
            C.due("steps() stay", x.steps(), steps);
            C.due("passed(0) stays", x.passed(0), 1);
        }
    }

    private static void promise3EmptiesTheImage() {
        C.says("Promise 3", "The image is empty then, likewise.");
        BundleFence x = Fences.looked("", 32);
        C.due("wipe()", x.wipe(), 32);
        C.due("peek(0x1000)", x.peek(0x1000), -1);
        C.due("size(0)", x.size(0), 0);
        C.due("unit(0)", x.unit(0), -1);
        C.due("fault()", x.fault(), 0);
        C.refused("begin(false)", IllegalStateException.class, () -> x.begin(false));
        C.refused("begin(true)", IllegalStateException.class, () -> x.begin(true));
        BundleFence bad = Fences.looked("90 0F 05", 32);
        C.due("fault() before", bad.fault(), 2);
        bad.wipe();
        C.due("fault() behind wipe()", bad.fault(), 0);
        C.due("place() behind wipe()", bad.place(), -1);
        for (int state = 1; state <= 8; state++) {
            BundleFence y = States.in(state);
            y.wipe();
            C.due("STATE behind wipe() in STATE " + state, y.told(0), 0);
            C.refused("run(0)", IllegalStateException.class, () -> y.run(0));
        }
        BundleFence none = new BundleFence();
        none.look();
        C.due("fault() of an empty one", none.fault(), 1);
        none.wipe();
        C.due("fault() of it behind wipe()", none.fault(), 0);
    }

    private static void promise3AnswersWhatItHad() {
        C.says("Promise 3", "Answers how many bytes it had.");
        for (int n : new int[] {0, 1, 7, 8, 9, 31, 32, 2047, 2048}) {
            BundleFence x = ofSize(n);
            C.due("wipe() of " + n, x.wipe(), n);
            C.due("wipe() again", x.wipe(), 0);
            C.due("feed(1) behind it", x.feed(1, 0x55), 1);
            C.due("its byte", x.peek(0x1000), 0x55);
            C.due("wipe() of it", x.wipe(), 1);
        }
    }

    private static void promise11PokesDataAlone() {
        C.says("Promise 11", "IllegalArgumentException: it is not in DATA, or v is not 0 to 255.");
        BundleFence x = Fences.looked("", 32);
        int[] outside = {0xFFFF, 0x20000, 0xF000, 0x20FFF, 0x1000, 0x101F, 0x400, 0, -1, LEAST, MOST, 0x80010000};
        for (int a : outside) {
            C.refused("poke(" + a + ", 0)", IllegalArgumentException.class, () -> x.poke(a, 0));
            C.refused("poke(" + a + ", 256)", IllegalArgumentException.class, () -> x.poke(a, 256));
        }
        C.due("the image is as it was", x.peek(0x1000), 0x90);
        C.due("it is looked through still", x.unit(0), 1);
        for (int a : new int[] {0x10000, 0x1FFFF, 0x18000}) {
            C.due("poke(" + a + ", 255)", x.poke(a, 255), 0);
            C.due("peek(" + a + ")", x.peek(a), 255);
        }
    }

    private static void promise11AnswersWhatItWas() {
        C.says("Promise 11", "The byte of DATA at an address becomes v. Answers what it was.");
        BundleFence x = new BundleFence();
        int was = 0;
        for (int v : new int[] {255, 0, 128, 127, 1, 255}) {
            C.due("poke(0x1FFFF, " + v + ")", x.poke(0x1FFFF, v), was);
            C.due("peek(0x1FFFF)", x.peek(0x1FFFF), v);
            was = v;
        }
        C.due("the byte before it", x.peek(0x1FFFE), 0);
        C.due("the first byte", x.peek(0x10000), 0);
    }

    private static void promise11RefusesOtherBytes() {
        C.says("Promise 11", "v is not 0 to 255");
        BundleFence x = new BundleFence();
        x.poke(0x10000, 7);
        for (int v : new int[] {256, -1, 511, -256, LEAST, MOST}) {
            C.refused("poke of " + v, IllegalArgumentException.class, () -> x.poke(0x10000, v));
            C.due("peek(0x10000) behind it", x.peek(0x10000), 7);
        }
        C.due("poke of 0", x.poke(0x10000, 0), 7);
        C.due("poke of 255", x.poke(0x10000, 255), 0);
    }

    private static void promise12PeeksDataAndImage() {
        C.says("Promise 12", "The byte of DATA or the image at an address; NONE when there is none.");
        BundleFence x = Fences.of("FF 80 7F");
        C.due("peek(0xFFF)", x.peek(0xFFF), -1);
        C.due("peek(0x1000)", x.peek(0x1000), 0xFF);
        C.due("peek(0x1001)", x.peek(0x1001), 0x80);
        C.due("peek(0x1002)", x.peek(0x1002), 0x7F);
        C.due("peek(0x1003)", x.peek(0x1003), -1);
        int[] none = {0, 0x400, 0x5E0, 0x1800, 0xF000, 0xFFFF, 0x20000, 0x20FFF, -1, LEAST, MOST, 0x80001000, 0x80010000};
        for (int a : none) {
            C.due("peek(" + a + ")", x.peek(a), -1);
        }
        C.due("peek(0x10000)", x.peek(0x10000), 0);
        C.due("peek(0x1FFFF)", x.peek(0x1FFFF), 0);
        x.wipe();
        C.due("peek(0x1000) of an empty image", x.peek(0x1000), -1);
        BundleFence full = ofSize(2048);
        C.due("peek(0x17FF) of a full image", full.peek(0x17FF), 0x90);
        C.due("peek(0x1800) of a full image", full.peek(0x1800), -1);
    }

    private static void promise13TakesTheLowestBytes() {
        C.says("Promise 13", "The n lowest bytes of a long, the lowest first, come behind the INPUT.");
        for (int n = 1; n <= 8; n++) {
            BundleFence x = Fences.atGate(2);
            C.due("give(1)", x.give(1, 0xEE), 1);
            C.due("give(" + n + ")", x.give(n, EIGHT), 1 + n);
            C.due("give(1) behind it", x.give(1, -1L), 2 + n);
            C.due("READ", Fences.serve(x, 0x10000, 100), 2 + n);
            C.due("the first", x.peek(0x10000), 0xEE);
            for (int i = 0; i < n; i++) {
                C.due("byte " + i + " of give(" + n + ")", x.peek(0x10001 + i), 0x11 * (1 + i));
            }
            C.due("the byte behind give(" + n + ")", x.peek(0x10001 + n), 0xFF);
        }
    }

    private static BundleFence waiting(BundleFence x, int n) {
        for (int i = 0; i + 8 <= n; i += 8) {
            x.give(8, 0);
        }
        if (n % 8 != 0) {
            x.give(n % 8, 0);
        }
        return x;
    }

    private static void promise13RefusesMoreThan256() {
        C.says("Promise 13", "Answers how many wait there; NONE when there would be more than 256.");
        for (int n = 1; n <= 8; n++) {
            C.due("give(" + n + ") that fills it", waiting(new BundleFence(), 256 - n).give(n, EIGHT), 256);
            C.due("give(" + n + ") a byte before", waiting(new BundleFence(), 255 - n).give(n, EIGHT), 255);
            BundleFence x = waiting(new BundleFence(), 257 - n);
            C.due("give(" + n + ") a byte behind", x.give(n, EIGHT), -1);
            C.due("how many wait", x.told(4), 257 - n);
            BundleFence full = waiting(Fences.atGate(2), 256);
            C.due("give(" + n + ") of a full one", full.give(n, EIGHT), -1);
            C.due("how many wait in the full one", full.told(4), 256);
            C.due("READ of one", Fences.serve(full, 0x10000, 1), 1);
            C.due("give(1) of what has room again", full.give(1, 0x99), 256);
            C.due("READ of all", Fences.serve(full, 0x10000, 0x10000), 256);
            C.due("what came last", full.peek(0x100FF), 0x99);
            C.due("what a refused give brought", full.peek(0x100FE), 0);
        }
    }

    private static void promise13RefusesOtherN() {
        C.says("Promise 13", "IllegalArgumentException: n is not 1 to 8.");
        BundleFence few = waiting(new BundleFence(), 3);
        BundleFence full = waiting(new BundleFence(), 256);
        for (int n : new int[] {0, 9, -1, 16, LEAST, MOST, -8}) {
            C.refused("give(" + n + ")", IllegalArgumentException.class, () -> few.give(n, EIGHT));
            C.refused("give(" + n + ") of a full one", IllegalArgumentException.class, () -> full.give(n, EIGHT));
        }
        C.due("how many wait", few.told(4), 3);
        C.due("give(8)", few.give(8, 0), 11);
        C.due("how many wait in the full one", full.told(4), 256);
    }

    private static void promise13WaitsForReading() {
        C.says("Promise 14", "DATA and INPUT as they are");
        BundleFence x = Fences.bundle("");
        x.give(3, 0x030201);
        x.poke(0x1FFFF, 9);
        x.begin(true);
        C.due("INPUT behind begin()", x.told(4), 3);
        C.due("DATA behind begin()", x.peek(0x1FFFF), 9);
        x.wipe();
        C.due("INPUT behind wipe()", x.told(4), 3);
        C.due("DATA behind wipe()", x.peek(0x1FFFF), 9);
        x.feed(1, 0x90);
        C.due("INPUT behind feed()", x.told(4), 3);
        C.due("DATA behind feed()", x.peek(0x1FFFF), 9);
    }
}
