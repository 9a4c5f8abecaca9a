/** Makes fences with images for the tests. */
final class Fences {
    static final int DATA = 0x10000;
    static final String NOP = "90";
    static final String HLT = "F4";

    private Fences() {
    }

    static int[] bytes(String hex) {
        String[] parts = hex.trim().split("\\s+");
        int[] b = new int[hex.isBlank() ? 0 : parts.length];
        for (int i = 0; i < b.length; i++) {
            b[i] = Integer.parseInt(parts[i], 16);
        }
        return b;
    }

    /** Replaces the image of x. */
    static void load(BundleFence x, String hex) {
        x.wipe();
        for (int b : bytes(hex)) {
            x.feed(1, b);
        }
    }

    static BundleFence of(String hex) {
        BundleFence x = new BundleFence();
        load(x, hex);
        return x;
    }

    /** The bytes, then nops, then hlt: so many bytes in all. */
    static String filled(String hex, int size) {
        int have = bytes(hex).length;
        return hex + " " + (NOP + " ").repeat(size - 1 - have) + HLT;
    }

    /** A bundle (or more) of the bytes, nops and a hlt. */
    static BundleFence bundle(String hex) {
        int have = bytes(hex).length;
        return of(filled(hex, (have + 32) / 32 * 32));
    }

    static String textOf(BundleFence x, int place) {
        int n = x.tell(place);
        StringBuilder s = new StringBuilder();
        for (int i = 0; i < n; i++) {
            s.append((char) (x.text(i) & 0xFF));
        }
        return n < 0 ? "none" : s.toString();
    }

    static void pokeLong(BundleFence x, int address, int v) {
        for (int i = 0; i < 4; i++) {
            x.poke(address + i, v >>> (8 * i) & 0xFF);
        }
    }

    static int peekLong(BundleFence x, int address) {
        int v = 0;
        for (int i = 3; i >= 0; i--) {
            v = v << 8 | x.peek(address + i);
        }
        return v;
    }

    static String le(int v) {
        return String.format("%02X %02X %02X %02X", v & 0xFF, v >>> 8 & 0xFF, v >>> 16 & 0xFF, v >>> 24);
    }
}
