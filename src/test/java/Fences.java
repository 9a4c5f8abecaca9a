/** Makes fences with images for the tests. */
final class Fences {
    static final int DATA = 0x10000;
    static final String NOP = "90";
    static final String HLT = "F4";
    static final int ROOM = 2048;

    private Fences() {
    }

    static int[] bytes(String hex) {
        String[] parts = hex.trim().split("\\s+");
        int[] b = new int[hex.isBlank() ? 0 : parts.length];
        for (int i = 0; i < b.length; i++) {
            b[i] = Integer.parseInt(parts[i], 16);
        }
        return b;
    }

    /** Replaces the image of x. */
    static void load(BundleFence x, String hex) {
        x.wipe();
        feed(x, bytes(hex));
    }

    /** Eight bytes a call, since an object is used for 512 calls alone. */
    static void feed(BundleFence x, int[] b) {
        for (int at = 0; at < b.length; at += 8) {
            int n = Math.min(8, b.length - at);
            long v = 0;
            for (int k = n - 1; k >= 0; k--) {
                v = v << 8 | b[at + k];
            }
            x.feed(n, v);
        }
    }

    static BundleFence of(String hex) {
        BundleFence x = new BundleFence();
        feed(x, bytes(hex));
        return x;
    }

    /** So many nops. */
    static String nops(int n) {
        return (NOP + " ").repeat(n);
    }

    /** The bytes, then nops, then hlt: so many bytes in all. */
    static String filled(String hex, int size) {
        int have = bytes(hex).length;
        return hex + " " + nops(size - 1 - have) + HLT;
    }

    /** A bundle (or more) of the bytes, nops and a hlt. */
    static BundleFence bundle(String hex) {
        int have = bytes(hex).length;
        return of(filled(hex, (have + 32) / 32 * 32));
    }

    /** A VALID image of so many bytes that was looked through. */
    static BundleFence looked(String hex, int size) {
        BundleFence x = of(filled(hex, size));
        x.look();
        return x;
    }

    /** A run that stands at gate k, called from place 0; the service leads back to that call. */
    static BundleFence atGate(int k) {
        BundleFence x = bundle("E8 " + le(gate(k) - 0x1005));
        x.begin(true);
        x.run(1);
        return x;
    }

    static int gate(int k) {
        return 0x400 + 32 * k;
    }

    /** Does the service that the run stands at, with these in ebx and ecx, and the call once more. */
    static int serve(BundleFence x, int ebx, int ecx) {
        x.put(3, ebx);
        x.put(1, ecx);
        x.run(1);
        int answer = x.register(0);
        x.run(1);
        return answer;
    }

    static String textOf(BundleFence x, int place) {
        int n = x.tell(place);
        StringBuilder s = new StringBuilder();
        for (int i = 0; i < n; i += 8) {
            long eight = x.text(i);
            for (int k = 0; k < 8 && i + k < n; k++) {
                s.append((char) (eight >>> (8 * k) & 0xFF));
            }
        }
        return n < 0 ? "none" : s.toString();
    }

    static void pokeLong(BundleFence x, int address, int v) {
        for (int i = 0; i < 4; i++) {
            x.poke(address + i, v >>> (8 * i) & 0xFF);
        }
    }

    static int peekLong(BundleFence x, int address) {
        int v = 0;
        for (int i = 3; i >= 0; i--) {
            v = v << 8 | x.peek(address + i);
        }
        return v;
    }

    static String le(int v) {
        return String.format("%02X %02X %02X %02X", v & 0xFF, v >>> 8 & 0xFF, v >>> 16 & 0xFF, v >>> 24);
    }
}
