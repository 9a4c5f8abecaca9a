/**
 * Section 2 and promise 8: which bytes are an instruction, and how long it is, for every opcode with
 * every first byte of E, against a table of its own.
 */
public final class LanguageEdgesTest {
    private static final Check C = new Check("LanguageEdgesTest");
    /**
     * What is behind an opcode: E, then b (a byte) or l (a LONG); / and the digits that E may have,
     * M for memory alone, R for MODE 3 alone. An opcode without an entry is none.
     */
    private static final String[] ONE = new String[256];
    private static final String[] BEHIND_0F = new String[256];
    private static final String[] BEHIND_66 = new String[256];
    private static final int SLOT = 16;

    public static void main(String[] args) {
        fillTables();
        opcodesOfOneByte();
        opcodesBehind0F();
        opcodesBehind66();
        formsOfE();
        digits();
        sizesAtTheImagesEnd();
        sizeWithoutSuchAPlace();
        sizeOfWhatLooksThroughNot();
        C.end();
    }

    private static void set(String[] table, int from, int to, String what) {
        for (int code = from; code <= to; code++) {
            table[code] = what;
        }
    }

    private static void fillTables() {
        for (int n = 0; n < 8; n++) {
            set(ONE, 8 * n, 8 * n + 3, "E");
            ONE[8 * n + 4] = "b";
            ONE[8 * n + 5] = "l";
        }
        ONE[0x0F] = null;
        set(ONE, 0x40, 0x5F, "");
        ONE[0x68] = "l";
        ONE[0x69] = "El";
        ONE[0x6A] = "b";
        ONE[0x6B] = "Eb";
        set(ONE, 0x70, 0x7F, "b");
        ONE[0x80] = "Eb";
        ONE[0x81] = "El";
        ONE[0x83] = "Eb";
        set(ONE, 0x84, 0x8B, "E");
        ONE[0x8D] = "EM";
        ONE[0x8F] = "E/0";
        set(ONE, 0x90, 0x99, "");
        ONE[0xA8] = "b";
        ONE[0xA9] = "l";
        set(ONE, 0xB0, 0xB7, "b");
        set(ONE, 0xB8, 0xBF, "l");
        set(ONE, 0xC0, 0xC1, "Eb/0123457");
        ONE[0xC6] = "Eb/0";
        ONE[0xC7] = "El/0";
        set(ONE, 0xD0, 0xD3, "E/0123457");
        set(ONE, 0xE2, 0xE3, "b");
        set(ONE, 0xE8, 0xE9, "l");
        ONE[0xEB] = "b";
        set(ONE, 0xF4, 0xF5, "");
        set(ONE, 0xF8, 0xF9, "");
        ONE[0xFE] = "E/01";
        set(BEHIND_0F, 0x40, 0x4F, "E");
        set(BEHIND_0F, 0x80, 0x8F, "l");
        set(BEHIND_0F, 0x90, 0x9F, "E");
        BEHIND_0F[0x1F] = "E/0";
        for (int code : new int[] {0xAF, 0xB1, 0xB6, 0xB7, 0xBC, 0xBD, 0xBE, 0xBF, 0xC1}) {
            BEHIND_0F[code] = "E";
        }
        BEHIND_0F[0xA4] = "Eb";
        BEHIND_0F[0xAC] = "Eb";
        set(BEHIND_0F, 0xC8, 0xCF, "");
        BEHIND_66[0x89] = "E";
        BEHIND_66[0x8B] = "E";
        BEHIND_66[0x90] = "";
    }

    /** What is behind the opcode; of two the digit decides. */
    private static String entry(String[] table, int code, int digit) {
        if (table == ONE && code >= 0xF6 && code <= 0xF7) {
            String number = code == 0xF6 ? "Eb" : "El";
            return digit == 0 ? number : "E/234567";
        }
        if (table == ONE && code == 0xFF) {
            return digit == 2 || digit == 4 ? "ER" : "E/016";
        }
        return table[code];
    }

    /** How long E is: its first byte, the byte s, the displacement. */
    private static int lengthOfE(int first, int s) {
        int mode = first >> 6;
        int rm = first & 7;
        int base = rm == 4 ? s & 7 : rm;
        if (mode == 3) {
            return 1;
        }
        int far = mode == 2 || mode == 0 && base == 5 ? 4 : mode;
        return (rm == 4 ? 2 : 1) + far;
    }

    /** The size that is due with these bytes behind the opcode of so many bytes. */
    private static int due(String[] table, int opcodeBytes, int code, int first, int s) {
        int digit = first >> 3 & 7;
        String e = entry(table, code, digit);
        if (e == null) {
            return 0;
        }
        int mode = first >> 6;
        int slash = e.indexOf('/');
        if (slash >= 0 && e.indexOf((char) ('0' + digit), slash) < 0) {
            return 0;
        }
        if (e.contains("M") && mode == 3 || e.contains("R") && mode != 3) {
            return 0;
        }
        int n = opcodeBytes + (e.contains("E") ? lengthOfE(first, s) : 0);
        return n + (e.contains("b") ? 1 : 0) + (e.contains("l") ? 4 : 0);
    }

    /** All 256 first bytes of E behind each opcode, 64 of them in an image (of 1024 bytes). */
    private static void compare(String[] table, String prefix, int seed) {
        int[] before = Fences.bytes(prefix);
        for (int code = 0; code < 256; code++) {
            if (table == ONE && (code == 0x0F || code == 0x66)) {
                continue;
            }
            for (int quarter = 0; quarter < 4; quarter++) {
                int[] image = new int[64 * SLOT];
                for (int i = 0; i < 64; i++) {
                    int at = SLOT * i;
                    System.arraycopy(before, 0, image, at, before.length);
                    image[at + before.length] = code;
                    image[at + before.length + 1] = 64 * quarter + i;
                    image[at + before.length + 2] = sibOf(code, 64 * quarter + i, seed);
                }
                BundleFence x = new BundleFence();
                Fences.feed(x, image);
                for (int i = 0; i < 64; i++) {
                    int first = 64 * quarter + i;
                    int want = due(table, before.length + 1, code, first, sibOf(code, first, seed));
                    String title = String.format("size of %s %02X %02X", prefix, code, first);
                    C.due(title, x.size(SLOT * i), want);
                    C.due("tell of the same is one: " + title, x.tell(SLOT * i) > 0, want > 0);
                }
            }
        }
    }

    private static int sibOf(int code, int first, int seed) {
        return code * 7 + first / 8 * 5 + seed & 255;
    }

    private static void opcodesOfOneByte() {
        C.says("2 INSTRUCTIONS", "All else is no instruction.");
        compare(ONE, "", 0);
        compare(ONE, "", 3);
    }

    private static void opcodesBehind0F() {
        C.says("2 INSTRUCTIONS", "0x0F and: 0x1F digit 0 nop E; 0x40 + c cmov G,E; 0x80 + c j L; 0x90 + c set E of 8 (any REG)");
        compare(BEHIND_0F, "0F", 1);
    }

    private static void opcodesBehind66() {
        C.says("2 INSTRUCTIONS", "0x66 and: 0x89 mov E,G of 16; 0x8B mov G,E of 16; 0x90 nop. All else is no instruction.");
        compare(BEHIND_66, "66", 2);
    }

    private static void formsOfE() {
        C.says("2 INSTRUCTIONS", "With MODE 0 and BASE (or RM) 5 there is no base, but a LONG behind; with MODE 1 an S8, with "
            + "MODE 2 a LONG comes behind, the DISPLACEMENT.");
        // every byte s, with each MODE
        for (int mode = 0; mode < 3; mode++) {
            for (int half = 0; half < 2; half++) {
                int[] image = new int[128 * SLOT];
                for (int i = 0; i < 128; i++) {
                    image[SLOT * i] = 0x8B;
                    image[SLOT * i + 1] = mode << 6 | 4;
                    image[SLOT * i + 2] = 128 * half + i;
                }
                BundleFence x = new BundleFence();
                Fences.feed(x, image);
                for (int i = 0; i < 128; i++) {
                    int s = 128 * half + i;
                    C.due("size with MODE " + mode + " and s " + s, x.size(SLOT * i), 1 + lengthOfE(mode << 6 | 4, s));
                }
            }
        }
    }

    private static void digits() {
        C.says("2 INSTRUCTIONS", "(Where E needs a digit: REG is that, and there is no G.)");
        // each digit, with MODE 3 and with memory
        String[] groups = {"80 01234567 1", "81 01234567 4", "83 01234567 1", "8F 0 0", "C0 0123457 1", "C1 0123457 1",
            "D0 0123457 0", "D1 0123457 0", "D2 0123457 0", "D3 0123457 0", "C6 0 1", "C7 0 4", "FE 01 0"};
        for (String g : groups) {
            String[] parts = g.split(" ");
            int code = Integer.parseInt(parts[0], 16);
            int number = Integer.parseInt(parts[2]);
            for (int d = 0; d < 8; d++) {
                boolean is = parts[1].indexOf((char) ('0' + d)) >= 0;
                digit(code, d, is ? 2 + number : 0, is ? 2 + number : 0);
            }
        }
        for (int d = 0; d < 8; d++) {
            int f6 = d == 0 ? 3 : d == 1 ? 0 : 2;
            int f7 = d == 0 ? 6 : d == 1 ? 0 : 2;
            digit(0xF6, d, f6, f6);
            digit(0xF7, d, f7, f7);
            boolean jumps = d == 2 || d == 4;
            boolean any = d == 0 || d == 1 || d == 6;
            digit(0xFF, d, jumps || any ? 2 : 0, any ? 2 : 0);
        }
    }

    private static void digit(int code, int d, int withRegister, int withMemory) {
        String behind = " 00 00 00 00 00 00";
        C.due("size with digit " + d, Fences.of(String.format("%02X %02X", code, 0xC0 + 8 * d) + behind).size(0), withRegister);
        C.due("size with digit " + d, Fences.of(String.format("%02X %02X", code, 8 * d) + behind).size(0), withMemory);
    }

    private static void sizesAtTheImagesEnd() {
        C.says("Promise 8", "How long the instruction is that begins at a place; 0 when none does, or it ends behind the "
            + "image, or there is no such place.");
        String[] whole = {"90", "40", "04 7F", "05 01 02 03 04", "68 01 02 03 04", "6A 01", "70 01", "8B C0", "8B 45 01",
            "8B 85 01 02 03 04", "8B 05 01 02 03 04", "8B 04 24", "8B 44 24 01", "8B 84 24 01 02 03 04",
            "8B 04 25 01 02 03 04", "80 C0 01", "81 C0 01 02 03 04", "81 04 24 01 02 03 04", "81 84 88 01 02 03 04 05 06 07 08",
            "83 C0 01", "B0 01", "B8 01 02 03 04", "C1 C0 01", "C6 C0 01", "C7 00 01 02 03 04", "E8 01 02 03 04", "EB 01",
            "F4", "F6 C0 01", "F7 C0 01 02 03 04", "F7 D0", "0F 1F 00", "0F 84 01 02 03 04", "0F A4 C0 01", "0F C8",
            "66 90", "66 89 C0", "66 8B 84 24 01 02 03 04"};
        for (String hex : whole) {
            int[] b = Fences.bytes(hex);
            for (int before : new int[] {0, 1, 2048 - b.length}) {
                BundleFence x = Fences.of(Fences.nops(before) + hex);
                C.due("size of " + hex + " at " + before, x.size(before), b.length);
                if (b.length > 1) {
                    String cut = hex.substring(0, 3 * b.length - 4);
                    BundleFence y = Fences.of(Fences.nops(before) + cut);
                    C.due("size of " + cut + " at " + before, y.size(before), 0);
                    C.due("tell of " + cut + " at " + before, y.tell(before), -1);
                }
            }
        }
    }

    private static void sizeWithoutSuchAPlace() {
        C.says("Promise 8", "or there is no such place");
        BundleFence x = Fences.of("90 90");
        C.due("size(0)", x.size(0), 1);
        C.due("size(1)", x.size(1), 1);
        for (int p : new int[] {-1, 2, 2047, 2048, 0x1000, 0x1001, Integer.MIN_VALUE, Integer.MAX_VALUE}) {
            C.due("size(" + p + ")", x.size(p), 0);
        }
        BundleFence full = Fences.of(Fences.nops(2048));
        C.due("size(2047) of a full image", full.size(2047), 1);
        C.due("size(2048) of a full image", full.size(2048), 0);
        full.wipe();
        C.due("size(0) of an empty image", full.size(0), 0);
        C.due("size(2047) of an empty image", full.size(2047), 0);
    }

    private static void sizeOfWhatLooksThroughNot() {
        C.says("Promise 8", "How long the instruction is that begins at a place");
        // in the midst of another one, over a BUNDLE's end, and of what is no part of any UNIT
        BundleFence x = Fences.looked(Fences.nops(26) + "B8 90 B8 01 02", 64);
        C.due("size(26)", x.size(26), 5);
        C.due("size(27)", x.size(27), 1);
        C.due("size(28)", x.size(28), 5);
        C.due("unit(28)", x.unit(28), 0);
        C.due("size(29)", x.size(29), 2);
        C.due("size(30), over the BUNDLE's end", x.size(30), 6);
        C.due("size(31)", x.size(31), 1);
        C.due("an instruction that faults", Fences.of("FF E0").size(0), 2);
    }
}
