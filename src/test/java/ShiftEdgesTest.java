/** Section 3: shifts by every number, and what moves numbers of other sizes, at their edges. */
public final class ShiftEdgesTest {
    private static final Check C = new Check("ShiftEdgesTest");
    private static final Steps S = new Steps(C);
    private static final String HEAD = "3 WHAT THEY DO";
    private static final String[] NAMES = {"rol", "ror", "rcl", "rcr", "shl", "shr", "", "sar"};
    private static final int[] TIMES = {0, 1, 2, 7, 8, 9, 15, 16, 17, 30, 31, 32, 33, 63, 64, 127, 128, 129, 224, 255};
    private static final long[] BYTES = {0, 1, 0x40, 0x7F, 0x80, 0x81, 0xA5, 0xC0, 0xFF};
    private static final long[] LONGS = {0, 1, 0x40000000L, 0x7FFFFFFFL, 0x80000000L, 0x80000001L, 0xA5A5A5A5L, 0xC0000000L,
        0xFFFFFFFFL};

    public static void main(String[] args) {
        shiftsByANumber();
        shiftsByOneAndCl();
        shiftsByNothing();
        shiftsByNothingReadE();
        clIsTakenFirst();
        doubleShifts();
        doubleShiftsByNothing();
        partsLeaveTheOthers();
        partsAreRead();
        movzxAndMovsx();
        cwdeAndCdq();
        bswap();
        bsfAndBsr();
        C.end();
    }

    /** Does a shift bit by bit on a row of bits, the lowest first; answers the result and the FLAGS. */
    private static String shifted(int op, long v, int times, int bits, boolean carry) {
        boolean[] row = new boolean[bits];
        for (int i = 0; i < bits; i++) {
            row[i] = (v >>> i & 1) != 0;
        }
        boolean cf = carry;
        boolean of = false;
        for (int t = 0; t < times; t++) {
            boolean left = op == 0 || op == 2 || op == 4;
            boolean out = left ? row[bits - 1] : row[0];
            boolean high = row[bits - 1];
            boolean in = op < 2 ? out : op < 4 ? cf : op == 7 && high;
            if (left) {
                System.arraycopy(row.clone(), 0, row, 1, bits - 1);
                row[0] = in;
            } else {
                System.arraycopy(row.clone(), 1, row, 0, bits - 1);
                row[bits - 1] = in;
            }
            cf = out;
            of = left ? row[bits - 1] != cf : op == 5 ? high : op != 7 && row[bits - 1] != row[bits - 2];
        }
        long r = 0;
        for (int i = 0; i < bits; i++) {
            r |= row[i] ? 1L << i : 0;
        }
        String other = op < 4 ? (carry ? "PZ" : "S") : "";
        String byResult = op < 4 ? "" : ReckonEdgesTest.flags(r, bits, false, false);
        return String.format("ecx=%X f=%s", r, (cf ? "C" : "") + (of ? "O" : "") + other + byResult);
    }

    private static void shiftsByANumber() {
        C.says(HEAD, "Shifts: the number modulo 32 is how often they are done by one; 0: nothing at all (but E is read).");
        for (int op = 0; op < 8; op++) {
            if (NAMES[op].isEmpty()) {
                continue;
            }
            for (int bits = 8; bits <= 32; bits += 24) {
                for (long v : bits == 8 ? BYTES : LONGS) {
                    for (int n : TIMES) {
                        for (int c = 0; c < 2; c++) {
                            String hex = String.format("%s %02X %02X", bits == 8 ? "C0" : "C1", 0xC1 + 8 * op, n);
                            String before = String.format("ecx=%X f=%s", v, c == 1 ? "CPZ" : "S");
                            S.row(hex, before, n % 32 == 0 ? "" : shifted(op, v, n % 32, bits, c == 1));
                        }
                    }
                }
            }
        }
    }

    private static void shiftsByOneAndCl() {
        C.says("2 INSTRUCTIONS", "0xD0, 0xD1 E,1, 0xD2, 0xD3 E,cl with digits 0 .. 5 and 7: rol ror rcl rcr shl shr, sar.");
        for (int op = 0; op < 8; op++) {
            if (NAMES[op].isEmpty()) {
                continue;
            }
            for (int c = 0; c < 2; c++) {
                String f = c == 1 ? " f=CPZ" : " f=S";
                for (long v : BYTES) {
                    String one = shifted(op, v, 1, 8, c == 1);
                    S.row(String.format("D0 %02X", 0xC1 + 8 * op), String.format("ecx=%X%s", v, f), one);
                    for (int n : TIMES) {
                        String want = n % 32 == 0 ? "" : shifted(op, v, n % 32, 8, c == 1).replace("ecx", "eax");
                        S.row(String.format("D2 %02X", 0xC0 + 8 * op), String.format("eax=%X ecx=%X%s", v, n, f), want);
                    }
                }
                for (long v : LONGS) {
                    String one = shifted(op, v, 1, 32, c == 1);
                    S.row(String.format("D1 %02X", 0xC1 + 8 * op), String.format("ecx=%X%s", v, f), one);
                    for (int n : TIMES) {
                        String want = n % 32 == 0 ? "" : shifted(op, v, n % 32, 32, c == 1).replace("ecx", "eax");
                        String before = String.format("eax=%X ecx=%X%s", v, 0xFFFFFF00L + n, f);
                        S.row(String.format("D3 %02X", 0xC0 + 8 * op), before, want);
                    }
                }
            }
        }
    }

    private static void shiftsByNothing() {
        C.says(HEAD, "0: nothing at all (but E is read)");
        for (int op = 0; op < 8; op++) {
            if (NAMES[op].isEmpty()) {
                continue;
            }
            for (int n : new int[] {0, 32, 64, 96, 128, 224}) {
                for (String f : new String[] {"f=", "f=C", "f=PZO", "f=CSO"}) {
                    S.row(String.format("C1 %02X %02X", 0xC1 + 8 * op, n), f, "");
                    S.row(String.format("D3 %02X", 0xC0 + 8 * op), String.format("ecx=%X %s", n, f), "");
                    S.row(String.format("C0 %02X %02X", 0x03 + 8 * op, n), f, "");
                }
            }
        }
    }

    private static void shiftsByNothingReadE() {
        C.says(HEAD, "(but E is read)");
        for (int op = 0; op < 8; op++) {
            if (NAMES[op].isEmpty()) {
                continue;
            }
            String by0 = String.format("C1 %02X 00", 0x03 + 8 * op);
            String by1 = String.format("C1 %02X 01", 0x03 + 8 * op);
            S.not(by0, "ebx=20000", 5);
            S.not(by0, "ebx=1FFFD", 5);
            S.not(by0, "ebx=0", 5);
            S.not(by0, "ebx=103D", 5);
            S.row(by0, "ebx=1FFFC", "");
            // the image is read, and not written
            S.row(by0, "ebx=1000", "");
            S.row(by0, "ebx=103C", "");
            S.not(by1, "ebx=1000 f=CSO", 6);
            S.not(by1, "ebx=20000", 5);
            S.not(String.format("D3 %02X", 0x03 + 8 * op), "ebx=20000 ecx=20", 5);
        }
        S.not("0F A4 03 00", "ebx=20000", 5);
        S.not("0F AC 03 20", "ebx=1FFFD", 5);
        S.row("0F AC 03 20", "ebx=1000", "");
        S.not("0F AC 03 21", "ebx=1000", 6);
    }

    private static void clIsTakenFirst() {
        C.says(HEAD, "the number modulo 32 is how often they are done by one");
        S.row("D3 E1", "ecx=1F", "ecx=80000000 f=CPS");
        S.row("D2 E1", "ecx=1", "ecx=2 f=");
        S.row("D2 C5", "ecx=8101", "ecx=301 f=CO");
        S.row("D3 C1", "ecx=21", "ecx=42 f=");
    }

    private static void doubleShifts() {
        C.says(HEAD, "shld, shrd (number modulo 32, 0: nothing, but E is read): E goes left (right) by so many bits, those of G "
            + "from its highest (lowest) one on come in; by the result; CF is the last bit that went out; OF: the sign is "
            + "another one than before.");
        for (long e : LONGS) {
            for (long g : LONGS) {
                for (int n : TIMES) {
                    int by = n & 31;
                    if (by == 0) {
                        continue;
                    }
                    String before = String.format("ecx=%X eax=%X f=PZ", e, g);
                    long left = (e << 32 | g) << by >>> 32;
                    S.row(String.format("0F A4 C1 %02X", n), before, both(e, left, (e >>> 32 - by & 1) != 0));
                    long right = (g << 32 | e) >>> by & 0xFFFFFFFFL;
                    S.row(String.format("0F AC C1 %02X", n), before, both(e, right, (e >>> by - 1 & 1) != 0));
                }
            }
        }
        // E and G are the same
        S.row("0F A4 C9 04", "ecx=12345678", "ecx=23456781 f=CP");
        S.row("0F AC C9 04", "ecx=12345678", "ecx=81234567 f=CSO");
    }

    private static String both(long e, long r, boolean carry) {
        boolean of = e >>> 31 != r >>> 31;
        return String.format("ecx=%X f=%s", r, ReckonEdgesTest.flags(r, 32, carry, of));
    }

    private static void doubleShiftsByNothing() {
        C.says(HEAD, "shld, shrd (number modulo 32, 0: nothing, but E is read)");
        for (int n : new int[] {0, 32, 64, 96, 128, 160, 192, 224}) {
            for (String f : new String[] {"f=", "f=C", "f=PZO", "f=CSO"}) {
                S.row(String.format("0F A4 C1 %02X", n), f, "");
                S.row(String.format("0F AC C1 %02X", n), f, "");
                S.row(String.format("0F A4 03 %02X", n), f, "");
            }
        }
    }

    private static void partsLeaveTheOthers() {
        C.says("2 INSTRUCTIONS", "What is written to a part leaves the other bits as they are.");
        String[] longs = {"eax", "ecx", "edx", "ebx", "esp", "ebp", "esi", "edi"};
        for (int r = 0; r < 8; r++) {
            String whole = longs[r & 3];
            S.row(String.format("%02X 5C", 0xB0 + r), whole + "=89ABCDEF", whole + (r < 4 ? "=89ABCD5C" : "=89AB5CEF"));
            S.row(String.format("80 %02X FF", 0xC8 + r), whole + "=80010203", whole + (r < 4 ? "=800102FF" : "=8001FF03") + " f=PS");
            S.row(String.format("0F 9B %02X", 0xC0 + r), whole + "=89ABCDEF", whole + (r < 4 ? "=89ABCD01" : "=89AB01EF"));
            String dword = longs[r];
            String source = r == 0 ? "ecx" : "eax";
            String hex = String.format("66 89 %02X", 0xC0 + r + (r == 0 ? 8 : 0));
            S.row(hex, dword + "=89ABCDEF " + source + "=11118000", dword + "=89AB8000");
            S.row(String.format("66 8B %02X 23", 0x04 + 8 * r), "m=77771234" + sourceOf(r, dword),
                r == 3 ? "ebx=11234" : dword + "=89AB1234");
        }
    }

    private static void partsAreRead() {
        C.says("2 INSTRUCTIONS", "BYTE REGISTERS 0 .. 3: their lowest bytes, al cl dl bl; 4 .. 7 the second bytes of the same four, "
            + "ah ch dh bh.");
        String[] longs = {"eax", "ecx", "edx", "ebx", "esp", "ebp", "esi", "edi"};
        for (int r = 0; r < 8; r++) {
            String part = r < 4 ? "EF" : "CD";
            S.row(String.format("0F B6 %02X", 0xF8 + r), longs[r & 3] + "=89ABCDEF", "edi=" + part);
            S.row(String.format("88 %02X 24", 0x04 + 8 * r), longs[r & 3] + "=89ABCDEF", "s=5A5A5A" + part);
            S.row(String.format("0F B7 %02X", 0xF8 + r - (r == 7 ? 8 : 0)), longs[r] + "=89ABCDEF",
                (r == 7 ? "esi" : "edi") + "=CDEF");
            S.row(String.format("66 89 %02X 25 00 01 01 00", 0x04 + 8 * r), longs[r] + "=89ABCDEF",
                "m=5A5ACDEF");
        }
        // what reckons with al takes nothing of ah
        S.row("F6 E1", "eax=12345602 ecx=7703", "eax=12340006 f=P");
        S.row("F6 E9", "eax=1234FF02 ecx=77FD", "eax=1234FFFA f=PS");
        S.row("04 01", "eax=123456FF", "eax=12345600 f=CPZ");
        S.row("A8 80", "eax=12348000", "f=PZ");
    }

    private static String sourceOf(int r, String name) {
        return r == 3 ? "" : " " + name + "=89ABCDEF";
    }

    private static void movzxAndMovsx() {
        C.says(HEAD, "movzx (0 above), movsx (its sign above)");
        for (int v : new int[] {0, 1, 0x7F, 0x80, 0xFF}) {
            String with = String.format("ecx=ABCDEF%02X f=CPZO", v);
            S.row("0F B6 C1", with, String.format("eax=%X", v));
            S.row("0F BE C1", with, String.format("eax=%X", (int) (byte) v));
            S.row("0F B6 C5", String.format("ecx=ABCD%02XEF", v), String.format("eax=%X", v));
            S.row("0F BE C5", String.format("ecx=ABCD%02XEF", v), String.format("eax=%X", (int) (byte) v));
            S.row("0F B6 03", String.format("m=ABCDEF%02X", v), String.format("eax=%X", v));
            S.row("0F BE 03", String.format("m=ABCDEF%02X", v), String.format("eax=%X", (int) (byte) v));
        }
        for (int v : new int[] {0, 1, 0x7FFF, 0x8000, 0xFFFF, 0x80}) {
            String with = String.format("ecx=ABCD%04X f=CPZO", v);
            S.row("0F B7 C1", with, String.format("eax=%X", v));
            S.row("0F BF C1", with, String.format("eax=%X", (int) (short) v));
            S.row("0F B7 03", String.format("m=ABCD%04X", v), String.format("eax=%X", v));
            S.row("0F BF 03", String.format("m=ABCD%04X", v), String.format("eax=%X", (int) (short) v));
        }
    }

    private static void cwdeAndCdq() {
        C.says(HEAD, "cwde (eax becomes ax with its sign), cdq (edx becomes eax's sign in all bits)");
        S.row("98", "eax=FFFF7FFF f=CSO", "eax=7FFF");
        S.row("98", "eax=8000 f=PZ", "eax=FFFF8000");
        S.row("98", "eax=FFFF0000", "eax=0");
        S.row("98", "eax=FFFF", "eax=FFFFFFFF");
        S.row("99", "eax=7FFFFFFF f=CSO", "edx=0");
        S.row("99", "eax=80000000 f=PZ", "edx=FFFFFFFF");
        S.row("99", "eax=0", "edx=0");
        S.row("99", "eax=FFFFFFFF", "edx=FFFFFFFF");
    }

    private static void bswap() {
        C.says(HEAD, "bswap (four bytes the other way round)");
        String[] longs = {"eax", "ecx", "edx", "ebx", "esp", "ebp", "esi", "edi"};
        for (int r = 0; r < 8; r++) {
            S.row(String.format("0F %02X", 0xC8 + r), longs[r] + "=80017F02 f=CPZO", longs[r] + "=27F0180");
        }
        S.row("0F C9", "ecx=0", "ecx=0");
        S.row("0F C9", "ecx=FF", "ecx=FF000000");
    }

    private static void bsfAndBsr() {
        C.says(HEAD, "bsf, bsr: with E 0 ZF is 1 and G stays, else ZF is 0 and G is the number of E's lowest (highest) bit that is "
            + "1.");
        for (int i = 0; i < 32; i++) {
            long bit = 1L << i;
            long above = cut(-bit);
            long below = cut(2 * bit - 1);
            S.row("0F BC C1", String.format("ecx=%X f=PZ", above), String.format("eax=%X f=P", i));
            S.row("0F BD C1", String.format("ecx=%X f=CPZO", below), String.format("eax=%X f=CPO", i));
            S.row("0F BC 03", String.format("m=%X f=CSO", bit), String.format("eax=%X f=CSO", i));
            S.row("0F BD 03", String.format("m=%X f=CSO", bit), String.format("eax=%X f=CSO", i));
        }
        S.row("0F BC C1", "ecx=0 f=CSO", "f=CZSO");
        S.row("0F BD C1", "ecx=0 f=", "f=Z");
        S.row("0F BC 03", "m=0", "f=Z");
        S.row("0F BD 03", "m=0 f=PZ", "");
        S.not("0F BC 03", "ebx=20000", 5);
    }

    private static long cut(long v) {
        return v & 0xFFFFFFFFL;
    }
}
