import java.util.LinkedHashMap;
import java.util.Map;

/**
 * Runs one instruction at place 5 and compares all that it changed. What is before and after is
 * told by words: registers, f (flags, of the letters CPZSO), eip, m and n (LONGS at 0x10100 and
 * 0x10104, where ebx points to), s and t (LONGS at 0x10200, where esp points to, and below).
 */
final class Steps {
    static final int BEGIN = 0x1005;
    private static final String[] NAMES = {"eax", "ecx", "edx", "ebx", "esp", "ebp", "esi", "edi"};
    private static final int[] FIRST = {0x11111111, 0x22222222, 0x33333333, 0x10100, 0x10200, 0x55555555,
        0x66666666, 0x77777777};
    private static final String[] PLACES = {"m", "n", "s", "t"};
    private static final int[] ADDRESSES = {0x10100, 0x10104, 0x10200, 0x101FC};
    private static final int[] BITS = {1, 4, 64, 128, 2048};

    private final Check check;

    Steps(Check check) {
        this.check = check;
    }

    static int flagsOf(String letters) {
        int f = 0;
        for (int i = 0; i < letters.length(); i++) {
            f |= BITS["CPZSO".indexOf(letters.charAt(i))];
        }
        return f;
    }

    /** Instructions of five bytes that leave these flags: mov al,a; add al,b; stc or clc. */
    static String preamble(int flags) {
        for (int a = 0; a < 256; a++) {
            for (int b = 0; b < 256; b++) {
                int r = a + b & 255;
                int f = flags & 1;
                f |= Integer.bitCount(r) % 2 == 0 ? 4 : 0;
                f |= r == 0 ? 64 : 0;
                f |= r > 127 ? 128 : 0;
                int sum = (byte) a + (byte) b;
                f |= sum > 127 || sum < -128 ? 2048 : 0;
                if (f == flags) {
                    return String.format("B0 %02X 04 %02X %s", a, b, (flags & 1) != 0 ? "F9" : "F8");
                }
            }
        }
        throw new IllegalStateException("no such flags: " + flags);
    }

    private static Map<String, Integer> words(String text) {
        Map<String, Integer> w = new LinkedHashMap<>();
        if (!text.isBlank()) {
            for (String t : text.trim().split("\\s+")) {
                String value = t.substring(t.indexOf('=') + 1);
                String name = t.substring(0, t.indexOf('='));
                w.put(name, name.equals("f") ? flagsOf(value) : (int) Long.parseLong(value, 16));
            }
        }
        return w;
    }

    /** A fence that stands at the instruction, all set as told before. */
    static BundleFence ready(String hex, Map<String, Integer> before) {
        BundleFence x = Fences.of(Fences.filled(preamble(before.getOrDefault("f", 0)) + " " + hex, 64));
        for (int i = 0; i < 4; i++) {
            Fences.pokeLong(x, ADDRESSES[i], before.getOrDefault(PLACES[i], 0x5A5A5A5A));
        }
        x.begin(true);
        x.run(3);
        for (int k = 0; k < 8; k++) {
            x.put(k, before.getOrDefault(NAMES[k], FIRST[k]));
        }
        return x;
    }

    static BundleFence ready(String hex, String before) {
        return ready(hex, words(before));
    }

    /** The instruction is done; what is not told behind it stays. */
    void row(String hex, String before, String after) {
        Map<String, Integer> was = words(before);
        Map<String, Integer> is = words(after);
        BundleFence x = ready(hex, was);
        String title = hex + " with " + before + ": ";
        check.due(title + "run(1)", x.run(1), 1);
        compare(title, x, was, is);
        check.due(title + "eip", x.told(1), is.getOrDefault("eip", BEGIN + Fences.bytes(hex).length));
        check.due(title + "steps()", x.steps(), 4);
        check.due(title + "passed(5)", x.passed(5), 1);
    }

    /** The instruction can't be done: nothing changes but the state. */
    void not(String hex, String before, int state) {
        Map<String, Integer> was = words(before);
        BundleFence x = ready(hex, was);
        String title = hex + " with " + before + ": ";
        check.due(title + "run(1)", x.run(1), 0);
        check.due(title + "state", x.told(0), state);
        compare(title, x, was, Map.of());
        check.due(title + "eip", x.told(1), BEGIN);
        check.due(title + "steps()", x.steps(), 3);
        check.due(title + "passed(5)", x.passed(5), 0);
        check.due(title + "run(1) again", x.run(1), 0);
    }

    private void compare(String title, BundleFence x, Map<String, Integer> was, Map<String, Integer> is) {
        for (int k = 0; k < 8; k++) {
            String name = NAMES[k];
            hex(title + name, x.register(k), is.getOrDefault(name, was.getOrDefault(name, FIRST[k])));
        }
        for (int i = 0; i < 4; i++) {
            String name = PLACES[i];
            hex(title + name, Fences.peekLong(x, ADDRESSES[i]), is.getOrDefault(name, was.getOrDefault(name, 0x5A5A5A5A)));
        }
        hex(title + "flags", x.told(7), is.getOrDefault("f", was.getOrDefault("f", 0)));
    }

    private void hex(String what, int got, int want) {
        check.due(what, Integer.toHexString(got), Integer.toHexString(want));
    }
}
