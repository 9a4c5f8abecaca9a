/** Promises 1, 2, 3, 8, 11, 12, 13: what is held, and how it comes in. */
public final class ImageTest {
    private static final Check C = new Check("ImageTest");

    public static void main(String[] args) {
        newObject();
        feeding();
        refusedFeedChangesNothing();
        wiping();
        sizes();
        poking();
        peeking();
        giving();
        C.end();
    }

    private static void newObject() {
        BundleFence x = new BundleFence();
        C.due("NONE", BundleFence.NONE, -1);
        C.due("fault()", x.fault(), 0);
        C.due("place()", x.place(), -1);
        C.due("unit(0)", x.unit(0), -1);
        C.due("size(0)", x.size(0), 0);
        C.due("tell(0)", x.tell(0), -1);
        C.due("text(0)", x.text(0), 0);
        C.due("peek(0x1000)", x.peek(0x1000), -1);
        for (int a = 0x10000; a < 0x20000; a += 0xFFF) {
            C.due("DATA at first", x.peek(a), 0);
        }
        int[] first = {0, 0x1000, 0, 0, 0, 0x10000, 0, 0};
        for (int k = 0; k < 8; k++) {
            C.due("told(" + k + ")", x.told(k), first[k]);
            C.due("register(" + k + ")", x.register(k), k == 4 ? 0x20000 : 0);
        }
        C.due("steps()", x.steps(), 0);
        C.due("output(0)", x.output(0), -1);
        C.due("passed(0)", x.passed(0), 0);
        C.refused("run(0)", IllegalStateException.class, () -> x.run(0));
        C.refused("begin(true)", IllegalStateException.class, () -> x.begin(true));
        C.due("wipe()", x.wipe(), 0);
    }

    private static void feeding() {
        BundleFence x = new BundleFence();
        C.due("feed(8)", x.feed(8, 0x8877665544332211L), 8);
        C.due("feed(1)", x.feed(1, -1L), 9);
        C.due("feed(3)", x.feed(3, 0xFF030201L), 12);
        int[] want = {0x11, 0x22, 0x33, 0x44, 0x55, 0x66, 0x77, 0x88, 0xFF, 1, 2, 3};
        for (int i = 0; i < want.length; i++) {
            C.due("peek of image byte " + i, x.peek(0x1000 + i), want[i]);
        }
        C.refused("feed(0)", IllegalArgumentException.class, () -> x.feed(0, 0));
        C.refused("feed(9)", IllegalArgumentException.class, () -> x.feed(9, 0));
        C.refused("feed(-1)", IllegalArgumentException.class, () -> x.feed(-1, 0));
        C.due("peek behind the image", x.peek(0x1000 + 12), -1);
        for (int i = 12; i + 8 <= 2048; i += 8) {
            C.due("feed(8) more", x.feed(8, 0), i + 8);
        }
        C.due("feed(5) beyond", x.feed(5, 0), -1);
        C.due("feed(8) beyond", x.feed(8, 0), -1);
        C.due("feed(4) to the end", x.feed(4, 0x0A0B0C0D), 2048);
        C.due("the last byte", x.peek(0x17FF), 0x0A);
        C.due("behind the last byte", x.peek(0x1800), -1);
        C.due("feed(1) to a full image", x.feed(1, 0), -1);
        C.refused("feed(9) to a full image", IllegalArgumentException.class, () -> x.feed(9, 0));
    }

    private static void refusedFeedChangesNothing() {
        BundleFence x = Fences.of(Fences.filled("", 2048));
        C.due("look()", x.look(), 2048);
        x.begin(false);
        C.due("run(3)", x.run(3), 3);
        C.due("feed of a full image", x.feed(1, 0), -1);
        C.refused("feed(0)", IllegalArgumentException.class, () -> x.feed(0, 0));
        C.due("still looked through", x.unit(2047), 1);
        C.due("the run goes on", x.told(0), 1);
        C.due("run(3) again", x.run(3), 3);
    }

    private static void wiping() {
        BundleFence x = Fences.bundle("40");
        C.due("look()", x.look(), 32);
        x.begin(false);
        x.run(5);
        C.due("wipe()", x.wipe(), 32);
        C.due("state behind wipe", x.told(0), 0);
        C.due("eip of the run that is over", x.told(1), 0x1005);
        C.due("steps of the run that is over", x.steps(), 5);
        C.due("passed of the run that is over", x.passed(0), 1);
        C.due("eax of the run that is over", x.register(0), 1);
        C.due("unit(0)", x.unit(0), -1);
        C.due("wipe() again", x.wipe(), 0);
        C.refused("run(1)", IllegalStateException.class, () -> x.run(1));
        C.refused("put(0, 1)", IllegalStateException.class, () -> x.put(0, 1));
        C.due("look() at nothing", x.look(), -1);
        C.due("fault of nothing", x.fault(), 1);
        C.due("place of it", x.place(), 0);
        C.due("feed(1)", x.feed(1, 0xF4), 1);
        C.due("fault() is forgotten", x.fault(), 0);
        C.due("place() is forgotten", x.place(), -1);
        C.due("size(0)", x.size(0), 1);
        C.due("size(1)", x.size(1), 0);
    }

    private static void sizes() {
        BundleFence x = Fences.of("81 84 88 01 02 03 04 05 06 07 08 0F 05");
        C.due("the longest", x.size(0), 11);
        C.due("no instruction", x.size(11), 0);
        C.due("cut off", x.size(12), 0);
        C.due("size(-1)", x.size(-1), 0);
        C.due("size(13)", x.size(13), 0);
        C.due("size(2047)", x.size(2047), 0);
        C.due("size(2048)", x.size(2048), 0);
        C.due("size(least)", x.size(Integer.MIN_VALUE), 0);
        C.due("size(most)", x.size(Integer.MAX_VALUE), 0);
        String longest = "81 84 88 01 02 03 04 05 06 07 08";
        int[] b = Fences.bytes(longest);
        BundleFence y = new BundleFence();
        for (int i = 0; i < b.length; i++) {
            C.due("size with " + i + " bytes", y.size(0), 0);
            y.feed(1, b[i]);
        }
        C.due("size with all", y.size(0), 11);
        String full = "90 ".repeat(2043) + "B8 00 00 00 00";
        BundleFence z = Fences.of(full);
        C.due("at the end of a full image", z.size(2043), 5);
        C.due("beyond the end of a full image", Fences.of("90 " + full.substring(0, 3 * 2046) + "B8").size(2047), 0);
    }

    private static void poking() {
        BundleFence x = new BundleFence();
        C.due("poke", x.poke(0x10000, 255), 0);
        C.due("poke again", x.poke(0x10000, 1), 255);
        C.due("peek", x.peek(0x10000), 1);
        C.due("poke the last", x.poke(0x1FFFF, 7), 0);
        C.due("peek the last", x.peek(0x1FFFF), 7);
        int[] outside = {0xFFFF, 0x20000, 0, -1, 0x1000, Integer.MIN_VALUE, Integer.MAX_VALUE};
        for (int a : outside) {
            C.refused("poke(" + a + ")", IllegalArgumentException.class, () -> x.poke(a, 1));
        }
        C.refused("poke of 256", IllegalArgumentException.class, () -> x.poke(0x10000, 256));
        C.refused("poke of -1", IllegalArgumentException.class, () -> x.poke(0x10000, -1));
        C.due("a refused poke changes nothing", x.peek(0x10000), 1);
    }

    private static void peeking() {
        BundleFence x = Fences.of("AA BB");
        C.due("first of the image", x.peek(0x1000), 0xAA);
        C.due("last of the image", x.peek(0x1001), 0xBB);
        int[] none = {0xFFF, 0x1002, 0xFFFF, 0x20000, 0, -1, 0x400, Integer.MIN_VALUE, Integer.MAX_VALUE};
        for (int a : none) {
            C.due("peek(" + a + ")", x.peek(a), -1);
        }
        C.due("first of DATA", x.peek(0x10000), 0);
        C.due("last of DATA", x.peek(0x1FFFF), 0);
    }

    private static void giving() {
        BundleFence x = new BundleFence();
        C.due("give(1)", x.give(1, 7), 1);
        C.due("give(8)", x.give(8, -1), 9);
        C.due("told(4)", x.told(4), 9);
        C.refused("give(0)", IllegalArgumentException.class, () -> x.give(0, 0));
        C.refused("give(9)", IllegalArgumentException.class, () -> x.give(9, 0));
        for (int i = 9; i + 8 <= 256; i += 8) {
            C.due("give(8) more", x.give(8, 0), i + 8);
        }
        C.due("told(4)", x.told(4), 249);
        C.due("give(8) beyond", x.give(8, 0), -1);
        C.due("give(7) to the end", x.give(7, 0), 256);
        C.due("give(1) beyond", x.give(1, 0), -1);
        C.refused("give(9) when full", IllegalArgumentException.class, () -> x.give(9, 0));
        C.due("told(4)", x.told(4), 256);
    }
}
