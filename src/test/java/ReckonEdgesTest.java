import java.math.BigInteger;

/** Section 3: what instructions make of numbers at the edges of their SIZE, and their FLAGS. */
public final class ReckonEdgesTest {
    private static final Check C = new Check("ReckonEdgesTest");
    private static final Steps S = new Steps(C);
    private static final String HEAD = "3 WHAT THEY DO";
    private static final long[] BYTES = {0, 1, 2, 0x0F, 0x7E, 0x7F, 0x80, 0x81, 0xFE, 0xFF};
    private static final long[] LONGS = {0, 1, 2, 0xFF, 0x7FFFFFFEL, 0x7FFFFFFFL, 0x80000000L, 0x80000001L, 0xFFFFFFFEL,
        0xFFFFFFFFL};
    private static final String[] EIGHT = {"add", "or", "adc", "sbb", "and", "sub", "xor", "cmp"};

    public static void main(String[] args) {
        theEight();
        testIsAndNotWritten();
        carryBeyondTheSize();
        incAndDecKeepCarry();
        negAndNot();
        parityOfTheLowestEightBits();
        imulWithTwoOrThree();
        mulAndImulWithOne();
        divAndIdiv();
        divTraps();
        C.end();
    }

    static String letters(boolean cf, boolean pf, boolean zf, boolean sf, boolean of) {
        return (cf ? "C" : "") + (pf ? "P" : "") + (zf ? "Z" : "") + (sf ? "S" : "") + (of ? "O" : "");
    }

    static boolean even(long r) {
        return Long.bitCount(r & 255) % 2 == 0;
    }

    static long signed(long v, int bits) {
        return v << (64 - bits) >> (64 - bits);
    }

    static long cut(long v, int bits) {
        return v & (1L << bits) - 1;
    }

    /** The flags by the result, with these two. */
    static String flags(long r, int bits, boolean cf, boolean of) {
        return letters(cf, even(r), r == 0, signed(r, bits) < 0, of);
    }

    private static boolean beyond(long v, int bits) {
        return v != signed(v, bits);
    }

    /** One of the eight: the result, and its FLAGS behind a blank, reckoned with numbers that have room. */
    private static String eight(int n, long a, long b, int c, int bits) {
        long top = 1L << bits;
        long sa = signed(a, bits);
        long sb = signed(b, bits);
        switch (n) {
            case 0:
                return answer(a + b, bits, a + b >= top, beyond(sa + sb, bits));
            case 2:
                return answer(a + b + c, bits, a + b + c >= top, beyond(sa + sb + c, bits));
            case 3:
                return answer(a - b - c, bits, a < b + c, beyond(sa - sb - c, bits));
            case 5:
            case 7:
                return answer(a - b, bits, a < b, beyond(sa - sb, bits));
            case 1:
                return answer(a | b, bits, false, false);
            case 4:
                return answer(a & b, bits, false, false);
            default:
                return answer(a ^ b, bits, false, false);
        }
    }

    private static String answer(long r, int bits, boolean cf, boolean of) {
        long v = cut(r, bits);
        return String.format("%X f=%s", v, flags(v, bits, cf, of));
    }

    private static void theEight() {
        C.says(HEAD, "add, adc (+ CF): by the result; CF what goes beyond the size, OF both have the same sign and the result "
            + "has another. sub, sbb (- CF), cmp (nothing written): likewise, CF the first is less than what is taken off (as "
            + "numbers without sign), OF the signs differ and the result's is not the first one's. and, or, xor, test (and, "
            + "nothing written): by the result, CF and OF 0.");
        for (int n = 0; n < 8; n++) {
            for (int bits = 8; bits <= 32; bits += 24) {
                long[] numbers = bits == 8 ? BYTES : LONGS;
                String hex = String.format("%02X C1", 8 * n + (bits == 8 ? 0 : 1));
                for (long a : numbers) {
                    for (long b : numbers) {
                        for (int c = 0; c < 2; c++) {
                            String before = String.format("ecx=%X eax=%X f=%s", a, b, c == 1 ? "C" : "PZO");
                            String after = eight(n, a, b, c, bits);
                            S.row(hex, before, n == 7 ? after.substring(after.indexOf('f')) : "ecx=" + after);
                        }
                    }
                }
            }
        }
    }

    private static void testIsAndNotWritten() {
        C.says(HEAD, "test (and, nothing written)");
        for (long a : BYTES) {
            for (long b : BYTES) {
                String want = eight(4, a, b, 0, 8);
                S.row("84 C1", String.format("ecx=%X eax=%X f=CSO", a, b), want.substring(want.indexOf('f')));
            }
        }
        for (long a : LONGS) {
            for (long b : LONGS) {
                String want = eight(4, a, b, 0, 32);
                S.row("85 C1", String.format("ecx=%X eax=%X f=CSO", a, b), want.substring(want.indexOf('f')));
                S.row("F7 C1 " + Fences.le((int) b), String.format("ecx=%X f=CSO", a), want.substring(want.indexOf('f')));
            }
        }
    }

    private static void carryBeyondTheSize() {
        C.says("Terms", "all reckoning wraps to its size.");
        S.row("00 C1", "ecx=FFFFFFFF eax=1", "ecx=FFFFFF00 f=CPZ");
        S.row("04 01", "eax=123456FF", "eax=12345600 f=CPZ");
        S.row("01 C1", "ecx=FFFFFFFF eax=1", "ecx=0 f=CPZ");
        S.row("29 C1", "ecx=0 eax=1", "ecx=FFFFFFFF f=CPS");
        S.row("28 C1", "ecx=12345600 eax=1", "ecx=123456FF f=CPS");
        S.row("41", "ecx=FFFFFFFF", "ecx=0 f=PZ");
        S.row("49", "ecx=0", "ecx=FFFFFFFF f=PS");
        S.row("FE C5", "ecx=1234FF78", "ecx=12340078 f=PZ");
        S.row("FE CD", "ecx=12340078", "ecx=1234FF78 f=PS");
        S.row("8D 43 01", "ebx=FFFFFFFF", "eax=0");
        S.row("8D 43 FF", "ebx=0", "eax=FFFFFFFF");
        S.row("8D 04 C3", "ebx=FFFFFFFF eax=20000001", "eax=7");
        // carry in, at both edges
        S.row("10 C1", "ecx=FF eax=FF f=C", "ecx=FF f=CPS");
        S.row("18 C1", "ecx=0 eax=FF f=C", "ecx=0 f=CPZ");
        S.row("11 C1", "ecx=FFFFFFFF eax=FFFFFFFF f=C", "ecx=FFFFFFFF f=CPS");
        S.row("19 C1", "ecx=0 eax=FFFFFFFF f=C", "ecx=0 f=CPZ");
        S.row("19 C1", "ecx=FFFFFFFF eax=FFFFFFFF f=C", "ecx=FFFFFFFF f=CPS");
    }

    private static void incAndDecKeepCarry() {
        C.says(HEAD, "inc, dec: as add, sub of 1, but CF stays.");
        for (int c = 0; c < 2; c++) {
            String with = c == 1 ? " f=C" : " f=";
            for (long a : LONGS) {
                single("41", a, a + 1, 32, with, beyond(signed(a, 32) + 1, 32), c == 1);
                single("FF C1", a, a + 1, 32, with, beyond(signed(a, 32) + 1, 32), c == 1);
                single("49", a, a - 1, 32, with, beyond(signed(a, 32) - 1, 32), c == 1);
                single("FF C9", a, a - 1, 32, with, beyond(signed(a, 32) - 1, 32), c == 1);
            }
            for (long a : BYTES) {
                single("FE C1", a, a + 1, 8, with, beyond(signed(a, 8) + 1, 8), c == 1);
                single("FE C9", a, a - 1, 8, with, beyond(signed(a, 8) - 1, 8), c == 1);
            }
        }
    }

    private static void single(String hex, long a, long result, int bits, String with, boolean of, boolean cf) {
        S.row(hex, String.format("ecx=%X%s", a, with), "ecx=" + answer(result, bits, cf, of));
    }

    private static void negAndNot() {
        C.says(HEAD, "neg: as sub from 0. not: no flags.");
        for (int bits = 8; bits <= 32; bits += 24) {
            String neg = bits == 8 ? "F6 D9" : "F7 D9";
            String not = bits == 8 ? "F6 D1" : "F7 D1";
            for (long a : bits == 8 ? BYTES : LONGS) {
                single(neg, a, -a, bits, " f=PZ", beyond(-signed(a, bits), bits), a != 0);
                single(neg, a, -a, bits, " f=CSO", beyond(-signed(a, bits), bits), a != 0);
                S.row(not, String.format("ecx=%X f=CPZO", a), String.format("ecx=%X", cut(~a, bits)));
                S.row(not, String.format("ecx=%X f=", a), String.format("ecx=%X", cut(~a, bits)));
            }
        }
    }

    private static void parityOfTheLowestEightBits() {
        C.says(HEAD, "BY THE RESULT: ZF it is 0, SF its highest bit, PF an even number of the lowest eight bits are 1.");
        for (int v = 0; v < 256; v++) {
            S.row("84 C9", String.format("ecx=%X", v), "f=" + flags(v, 8, false, false));
            S.row("85 C9", String.format("ecx=%X", 0x1E300 + v), "f=" + flags(0x1E300 + v, 32, false, false));
            S.row("85 C9", String.format("ecx=%X", 0x80000100L + v), "f=" + flags(0x80000100L + v, 32, false, false));
        }
    }

    private static void imulWithTwoOrThree() {
        C.says(HEAD, "imul with two or three operands: the product's lowest bits; by the result; CF and OF are 1 if the whole "
            + "product (with signs) is not that number with its sign.");
        long[] more = {0x8000, 0x10000, 0xFFFF8000L, 0xFFFF0000L, 46340, 46341, 65535};
        for (long a : LONGS) {
            for (long b : LONGS) {
                imul(a, b);
            }
            for (long b : more) {
                imul(a, b);
            }
        }
        for (long a : more) {
            for (long b : more) {
                imul(a, b);
            }
        }
    }

    private static void imul(long a, long b) {
        long p = signed(a, 32) * signed(b, 32);
        boolean is = beyond(p, 32);
        String after = "eax=" + answer(p, 32, is, is);
        S.row("0F AF C1", String.format("eax=%X ecx=%X f=PZ", a, b), after);
        S.row("69 C1 " + Fences.le((int) a), String.format("ecx=%X f=CSO", b), after);
        if (signed(a, 32) == signed(a, 8)) {
            S.row(String.format("6B C1 %02X", a & 255), String.format("ecx=%X", b), after);
        }
    }

    private static void mulAndImulWithOne() {
        C.says(HEAD, "by the lower half; CF and OF are 1 if the higher half is not 0 (mul), or is not the sign of the lower half in "
            + "all bits (imul).");
        for (long a : BYTES) {
            for (long b : BYTES) {
                String before = String.format("eax=%X ecx=%X f=PZ", 0xABCD0000L + a, b);
                S.row("F6 E1", before, oneOfBytes(a * b, a * b > 255));
                long p = signed(a, 8) * signed(b, 8);
                S.row("F6 E9", before, oneOfBytes(p, beyond(p, 8)));
            }
        }
        for (long a : LONGS) {
            for (long b : LONGS) {
                String before = String.format("eax=%X ecx=%X f=PZ", a, b);
                BigInteger p = BigInteger.valueOf(a).multiply(BigInteger.valueOf(b));
                S.row("F7 E1", before, oneOfLongs(p, p.bitLength() > 32));
                long q = signed(a, 32) * signed(b, 32);
                S.row("F7 E9", before, oneOfLongs(BigInteger.valueOf(q), beyond(q, 32)));
            }
        }
    }

    private static String oneOfBytes(long p, boolean is) {
        long low = cut(p, 8);
        return String.format("eax=%X f=%s", 0xABCD0000L + cut(p, 16), flags(low, 8, is, is));
    }

    private static String oneOfLongs(BigInteger p, boolean is) {
        long low = cut(p.longValue(), 32);
        long high = cut(p.shiftRight(32).longValue(), 32);
        return String.format("eax=%X edx=%X f=%s", low, high, flags(low, 32, is, is));
    }

    private static void divAndIdiv() {
        C.says(HEAD, "div, idiv: ax by E (8): al the quotient, ah the rest; edx and eax by E: eax, edx; cut off, the rest has the "
            + "dividend's sign; if E is 0, or the quotient has no room, it TRAPS. No flags.");
        long[] words = {0, 1, 2, 0x7F, 0x80, 0xFF, 0x100, 0x3F80, 0x3FFF, 0x4000, 0x7F00, 0x7FFF, 0x8000, 0x8001, 0xC000, 0xC080,
            0xC0FF, 0xFE01, 0xFEFF, 0xFF00, 0xFF7F, 0xFF80, 0xFF81, 0xFFFE, 0xFFFF};
        for (long a : words) {
            for (long e : BYTES) {
                divideBytes(a, e);
            }
        }
        long[] highs = {0, 1, 2, 0x3FFFFFFFL, 0x40000000L, 0x7FFFFFFFL, 0x80000000L, 0xBFFFFFFFL, 0xC0000000L, 0xFFFFFFFEL,
            0xFFFFFFFFL};
        for (long high : highs) {
            for (long low : LONGS) {
                for (long e : LONGS) {
                    divideLongs(high, low, e);
                }
            }
        }
    }

    private static void divideBytes(long a, long e) {
        String before = String.format("eax=%X ecx=%X f=CSO", 0xABCD0000L + a, 0x7700 + e);
        if (e == 0 || a / e > 255) {
            S.not("F6 F1", before, 4);
        } else {
            S.row("F6 F1", before, String.format("eax=%X", 0xABCD0000L + a / e + (a % e << 8)));
        }
        long sa = signed(a, 16);
        long se = signed(e, 8);
        if (e == 0 || beyond(sa / se, 8)) {
            S.not("F6 F9", before, 4);
        } else {
            S.row("F6 F9", before, String.format("eax=%X", 0xABCD0000L + cut(sa / se, 8) + (cut(sa % se, 8) << 8)));
        }
    }

    private static void divideLongs(long high, long low, long e) {
        String before = String.format("edx=%X eax=%X ecx=%X f=CSO", high, low, e);
        BigInteger a = BigInteger.valueOf(high).shiftLeft(32).add(BigInteger.valueOf(low));
        divideBig("F7 F1", before, a, BigInteger.valueOf(e), 33);
        BigInteger sa = BigInteger.valueOf(high << 32 | low);
        divideBig("F7 F9", before, sa, BigInteger.valueOf(signed(e, 32)), 32);
    }

    /** The quotient has to lie in so many bits (with a sign). */
    private static void divideBig(String hex, String before, BigInteger a, BigInteger e, int bits) {
        if (e.signum() == 0 || a.divide(e).bitLength() >= bits) {
            S.not(hex, before, 4);
        } else {
            BigInteger[] q = a.divideAndRemainder(e);
            S.row(hex, before, String.format("eax=%X edx=%X", cut(q[0].longValue(), 32), cut(q[1].longValue(), 32)));
        }
    }

    private static void divTraps() {
        C.says(HEAD, "if E is 0, or the quotient has no room, it TRAPS.");
        S.not("F6 F1", "eax=0 ecx=0", 4);
        S.not("F7 F1", "eax=0 edx=0 ecx=0", 4);
        S.not("F6 F9", "eax=0 ecx=0", 4);
        S.not("F7 F9", "eax=0 edx=0 ecx=0", 4);
        S.not("F6 33", "eax=0 m=FFFFFF00", 4);
        S.not("F7 3B", "eax=0 edx=0 m=0", 4);
        S.row("F6 F1", "eax=FEFF ecx=FF", "eax=FEFF");
        S.not("F6 F1", "eax=FF00 ecx=FF", 4);
        S.row("F6 F9", "eax=FF80 ecx=1", "eax=80");
        S.not("F6 F9", "eax=FF7F ecx=1", 4);
        S.row("F6 F9", "eax=7F ecx=1", "eax=7F");
        S.not("F6 F9", "eax=80 ecx=1", 4);
        S.row("F6 F9", "eax=7F ecx=FF", "eax=81");
        S.row("F6 F9", "eax=80 ecx=FF", "eax=80");
        S.not("F6 F9", "eax=81 ecx=FF", 4);
        // the rest has the dividend's sign
        S.row("F7 F9", "eax=FFFFFFF9 edx=FFFFFFFF ecx=2", "eax=FFFFFFFD edx=FFFFFFFF");
        S.row("F7 F9", "eax=7 edx=0 ecx=FFFFFFFE", "eax=FFFFFFFD edx=1");
        S.row("F7 F9", "eax=FFFFFFF9 edx=FFFFFFFF ecx=FFFFFFFE", "eax=3 edx=FFFFFFFF");
        // the divisor is a part of the dividend
        S.not("F6 F4", "eax=305", 4);
        S.not("F7 F2", "eax=0 edx=1", 4);
        S.row("F6 F0", "eax=5", "eax=1");
        S.row("F7 F0", "eax=5 edx=0", "eax=1 edx=0");
        S.row("F7 F0", "eax=5 edx=3", "eax=9999999A edx=3");
    }
}
