/** Promises 8, 9 and 10: sizes and texts of instructions, for every opcode of the language. */
public final class TextTest {
    private static final Check C = new Check("TextTest");

    public static void main(String[] args) {
        arithmetic();
        oneByte();
        groups();
        moves();
        jumps();
        long0F();
        words();
        memory();
        conditions();
        none();
        reading();
        C.end();
    }

    /** The bytes are one instruction with this text; one byte less is none. */
    private static void row(String hex, String want) {
        int[] b = Fences.bytes(hex);
        BundleFence x = new BundleFence();
        for (int i = 0; i < b.length; i++) {
            C.due("size of " + i + " bytes of " + hex, x.size(0), 0);
            x.feed(1, b[i]);
        }
        C.due("size of " + hex, x.size(0), b.length);
        C.due("tell of " + hex, x.tell(0), want.length());
        C.due("text of " + hex, Fences.textOf(x, 0), want);
        x.feed(8, 0);
        C.due("size of " + hex + " with more behind", x.size(0), b.length);
    }

    private static void no(String hex) {
        BundleFence x = Fences.of(hex + " 00 00 00 00 00 00 00 00 00 00 00 00");
        C.due("size of " + hex, x.size(0), 0);
        C.due("tell of " + hex, x.tell(0), -1);
    }

    private static void arithmetic() {
        String[] names = {"add", "or", "adc", "sbb", "and", "sub", "xor", "cmp"};
        for (int n = 0; n < 8; n++) {
            String op = names[n];
            row(String.format("%02X C1", 8 * n), op + " cl,al");
            row(String.format("%02X 0B", 8 * n), op + " b[ebx],cl");
            row(String.format("%02X C1", 8 * n + 1), op + " ecx,eax");
            row(String.format("%02X 0B", 8 * n + 1), op + " d[ebx],ecx");
            row(String.format("%02X C1", 8 * n + 2), op + " al,cl");
            row(String.format("%02X 0B", 8 * n + 2), op + " cl,b[ebx]");
            row(String.format("%02X C1", 8 * n + 3), op + " eax,ecx");
            row(String.format("%02X 0B", 8 * n + 3), op + " ecx,d[ebx]");
            row(String.format("%02X 80", 8 * n + 4), op + " al,-128");
            row(String.format("%02X FF FF 00 00", 8 * n + 5), op + " eax,65535");
            row(String.format("80 %02X 7F", 0xC4 + 8 * n), op + " ah,127");
            row(String.format("81 %02X 00 00 00 80", 0xC4 + 8 * n), op + " esp,-2147483648");
            row(String.format("83 %02X E0", 0xC4 + 8 * n), op + " esp,-32");
            row(String.format("83 %02X 05 01", 0x40 + 8 * n), op + " d[eax+5],1");
            no(String.format("82 %02X 05", 0xC0 + 8 * n));
        }
    }

    private static void oneByte() {
        String[] r = {"eax", "ecx", "edx", "ebx", "esp", "ebp", "esi", "edi"};
        String[] b = {"al", "cl", "dl", "bl", "ah", "ch", "dh", "bh"};
        for (int k = 0; k < 8; k++) {
            row(String.format("%02X", 0x40 + k), "inc " + r[k]);
            row(String.format("%02X", 0x48 + k), "dec " + r[k]);
            row(String.format("%02X", 0x50 + k), "push " + r[k]);
            row(String.format("%02X", 0x58 + k), "pop " + r[k]);
            row(String.format("%02X", 0x90 + k), k == 0 ? "nop" : "xchg eax," + r[k]);
            row(String.format("%02X FF", 0xB0 + k), "mov " + b[k] + ",-1");
            row(String.format("%02X FF 00 00 00", 0xB8 + k), "mov " + r[k] + ",255");
            row(String.format("0F %02X", 0xC8 + k), "bswap " + r[k]);
        }
        row("98", "cwde");
        row("99", "cdq");
        row("F4", "hlt");
        row("F5", "cmc");
        row("F8", "clc");
        row("F9", "stc");
        row("68 78 56 34 12", "push 305419896");
        row("6A FE", "push -2");
        row("A8 90", "test al,-112");
        row("A9 90 00 00 00", "test eax,144");
    }

    private static void groups() {
        String[] shifts = {"rol", "ror", "rcl", "rcr", "shl", "shr", "", "sar"};
        for (int d = 0; d < 8; d++) {
            int m = 0xC1 + 8 * d;
            if (d == 6) {
                for (String op : new String[] {"C0", "C1", "D0", "D1", "D2", "D3"}) {
                    no(String.format("%s %02X 01", op, m));
                }
                continue;
            }
            row(String.format("C0 %02X 1F", m), shifts[d] + " cl,31");
            row(String.format("C1 %02X FF", m), shifts[d] + " ecx,-1");
            row(String.format("D0 %02X", m), shifts[d] + " cl,1");
            row(String.format("D1 %02X", m), shifts[d] + " ecx,1");
            row(String.format("D2 %02X", m), shifts[d] + " cl,cl");
            row(String.format("D3 %02X", m), shifts[d] + " ecx,cl");
            row(String.format("D3 %02X", m - 0xC0), shifts[d] + " d[ecx],cl");
        }
        String[] singles = {"", "", "not", "neg", "mul", "imul", "div", "idiv"};
        for (int d = 2; d < 8; d++) {
            row(String.format("F6 %02X", 0xC7 + 8 * d), singles[d] + " bh");
            row(String.format("F7 %02X", 0xC7 + 8 * d), singles[d] + " edi");
            row(String.format("F6 %02X", 0x07 + 8 * d), singles[d] + " b[edi]");
            row(String.format("F7 %02X", 0x07 + 8 * d), singles[d] + " d[edi]");
        }
        row("F6 C7 80", "test bh,-128");
        row("F7 C7 01 00 00 00", "test edi,1");
        row("F6 07 01", "test b[edi],1");
        no("F6 C8 01");
        no("F7 C8 01");
        row("FE C7", "inc bh");
        row("FE CF", "dec bh");
        row("FF 07", "inc d[edi]");
        row("FF CF", "dec edi");
        row("FF D7", "call edi");
        row("FF E4", "jmp esp");
        row("FF F7", "push edi");
        row("FF 37", "push d[edi]");
        for (int d = 2; d < 8; d++) {
            no(String.format("FE %02X", 0xC0 + 8 * d));
        }
        no("FF 17");
        no("FF 27");
        no("FF DF");
        no("FF 1F");
        no("FF EF");
        no("FF FF");
    }

    private static void moves() {
        row("84 C1", "test cl,al");
        row("85 C1", "test ecx,eax");
        row("86 C1", "xchg cl,al");
        row("87 C1", "xchg ecx,eax");
        row("87 01", "xchg d[ecx],eax");
        row("88 C1", "mov cl,al");
        row("89 C1", "mov ecx,eax");
        row("8A C1", "mov al,cl");
        row("8B C1", "mov eax,ecx");
        row("8D 01", "lea eax,d[ecx]");
        no("8D C1");
        row("8F C1", "pop ecx");
        row("8F 01", "pop d[ecx]");
        no("8F C9");
        row("C6 C4 80", "mov ah,-128");
        row("C6 00 05", "mov b[eax],5");
        no("C6 C8 01");
        row("C7 C4 FF FF FF FF", "mov esp,-1");
        row("C7 00 05 00 00 00", "mov d[eax],5");
        no("C7 C8 01");
        row("69 C1 00 01 00 00", "imul eax,ecx,256");
        row("69 01 00 01 00 00", "imul eax,d[ecx],256");
        row("6B C1 80", "imul eax,ecx,-128");
    }

    private static void jumps() {
        row("EB FE", "jmp 4096");
        row("EB 7F", "jmp 4225");
        row("EB 80", "jmp 3970");
        row("E9 FB FF FF FF", "jmp 4096");
        row("E9 FA EF FF FF", "jmp 4294967295");
        row("E9 FB EF FF FF", "jmp 0");
        row("E9 04 F0 FF FF", "jmp 9");
        row("E9 05 F0 FF FF", "jmp 10");
        row("E9 FB EF FF 7F", "jmp 2147483648");
        row("E9 FA EF FF 7F", "jmp 2147483647");
        row("E8 1B F4 FF FF", "call 1056");
        row("E2 00", "loop 4098");
        row("E3 FF", "jecxz 4097");
        row("0F 84 FA FF FF FF", "je 4096");
    }

    private static void long0F() {
        row("0F 1F 00", "nop d[eax]");
        row("0F 1F C1", "nop ecx");
        no("0F 1F 08");
        no("0F 10 00");
        no("0F 1E 00");
        row("0F A4 C1 05", "shld ecx,eax,5");
        row("0F A4 01 FF", "shld d[ecx],eax,-1");
        row("0F AC C1 05", "shrd ecx,eax,5");
        row("0F AF C1", "imul eax,ecx");
        row("0F B1 C1", "cmpxchg ecx,eax");
        row("0F B1 01", "cmpxchg d[ecx],eax");
        row("0F B6 C4", "movzx eax,ah");
        row("0F B6 01", "movzx eax,b[ecx]");
        row("0F B7 C4", "movzx eax,sp");
        row("0F B7 01", "movzx eax,w[ecx]");
        row("0F BC C1", "bsf eax,ecx");
        row("0F BD 01", "bsr eax,d[ecx]");
        row("0F BE C4", "movsx eax,ah");
        row("0F BE 01", "movsx eax,b[ecx]");
        row("0F BF C7", "movsx eax,di");
        row("0F BF 01", "movsx eax,w[ecx]");
        row("0F C1 C1", "xadd ecx,eax");
        row("0F C1 01", "xadd d[ecx],eax");
        for (String op : new String[] {"00", "0B", "31", "3F", "50", "A2", "A3", "A5", "AB", "AD", "B0", "B3", "B8",
            "BA", "BB", "C0", "C2", "C7", "D0", "FF"}) {
            no("0F " + op + " C1");
        }
    }

    private static void words() {
        String[] w = {"ax", "cx", "dx", "bx", "sp", "bp", "si", "di"};
        for (int k = 0; k < 8; k++) {
            row(String.format("66 89 %02X", 0xC0 + k), "mov " + w[k] + ",ax");
            row(String.format("66 8B %02X", 0xC0 + k), "mov ax," + w[k]);
        }
        row("66 89 01", "mov w[ecx],ax");
        row("66 8B 01", "mov ax,w[ecx]");
        row("66 90", "nop");
        for (String op : new String[] {"00", "01", "40", "50", "66 90", "88", "8A", "91", "B8", "C7", "0F 1F 00"}) {
            no("66 " + op + " C1");
        }
    }

    private static void memory() {
        row("00 44 88 FF", "add b[eax+ecx*4-1],al");
        row("89 05 00 00 00 00", "mov d[0],eax");
        row("89 05 00 00 01 00", "mov d[65536],eax");
        row("89 05 FF FF FF FF", "mov d[-1],eax");
        row("89 45 00", "mov d[ebp],eax");
        row("89 45 01", "mov d[ebp+1],eax");
        row("89 40 80", "mov d[eax-128],eax");
        row("89 80 00 00 00 80", "mov d[eax-2147483648],eax");
        row("89 80 FF FF FF 7F", "mov d[eax+2147483647],eax");
        row("89 80 00 00 00 00", "mov d[eax],eax");
        row("89 04 24", "mov d[esp],eax");
        row("89 44 24 08", "mov d[esp+8],eax");
        row("89 04 E4", "mov d[esp],eax");
        row("89 04 23", "mov d[ebx],eax");
        row("89 04 03", "mov d[ebx+eax*1],eax");
        row("89 04 43", "mov d[ebx+eax*2],eax");
        row("89 04 C3", "mov d[ebx+eax*8],eax");
        row("89 04 3C", "mov d[esp+edi*1],eax");
        row("89 04 05 00 00 00 00", "mov d[eax*1],eax");
        row("89 04 85 05 00 00 00", "mov d[eax*4+5],eax");
        row("89 04 85 FB FF FF FF", "mov d[eax*4-5],eax");
        row("89 04 25 FB FF FF FF", "mov d[-5],eax");
        row("89 04 25 00 00 00 00", "mov d[0],eax");
        row("89 44 25 00", "mov d[ebp],eax");
        row("89 44 05 00", "mov d[ebp+eax*1],eax");
        row("89 84 2D 00 01 00 00", "mov d[ebp+ebp*1+256],eax");
        row("C7 84 C8 00 00 00 80 00 00 00 80", "mov d[eax+ecx*8-2147483648],-2147483648");
    }

    private static void conditions() {
        String[] c = {"o", "no", "b", "ae", "e", "ne", "be", "a", "s", "ns", "p", "np", "l", "ge", "le", "g"};
        for (int k = 0; k < 16; k++) {
            row(String.format("%02X 10", 0x70 + k), "j" + c[k] + " 4114");
            row(String.format("0F %02X 00 00 00 00", 0x80 + k), "j" + c[k] + " 4102");
            row(String.format("0F %02X C1", 0x40 + k), "cmov" + c[k] + " eax,ecx");
            row(String.format("0F %02X C1", 0x90 + k), "set" + c[k] + " cl");
            row(String.format("0F %02X 39", 0x90 + k), "set" + c[k] + " b[ecx]");
        }
    }

    private static void none() {
        String[] ops = {"06", "07", "0E", "16", "17", "1E", "1F", "26", "27", "2E", "2F", "36", "37", "3E", "3F", "60",
            "61", "62", "63", "64", "65", "67", "6C", "6D", "6E", "6F", "82", "8C", "8E", "9A", "9B", "9C", "9D", "9E",
            "9F", "A0", "A1", "A2", "A3", "A4", "A5", "A6", "A7", "AA", "AB", "AC", "AD", "AE", "AF", "C2", "C3", "C4",
            "C5", "C8", "C9", "CA", "CB", "CC", "CD", "CE", "CF", "D4", "D5", "D6", "D7", "D8", "DB", "DF", "E0", "E1",
            "E4", "E5", "E6", "E7", "EA", "EC", "EF", "F0", "F1", "F2", "F3", "FA", "FB", "FC", "FD"};
        for (String op : ops) {
            no(op);
        }
    }

    private static void reading() {
        BundleFence x = Fences.of("C7 84 C8 00 00 00 80 00 00 00 80 0F 05");
        String t = "mov d[eax+ecx*8-2147483648],-2147483648";
        C.due("tell(0)", x.tell(0), t.length());
        for (int i = -9; i < t.length() + 3; i++) {
            long want = 0;
            for (int k = 7; k >= 0; k--) {
                int at = i + k;
                want = want << 8 | (at >= 0 && at < t.length() ? t.charAt(at) : 0);
            }
            C.due("text(" + i + ")", x.text(i), want);
        }
        C.due("text(most)", x.text(Integer.MAX_VALUE), 0);
        C.due("text(most - 3)", x.text(Integer.MAX_VALUE - 3), 0);
        C.due("text(least)", x.text(Integer.MIN_VALUE), 0);
        int[] nothing = {11, 12, 13, -1, 2048, Integer.MAX_VALUE, Integer.MIN_VALUE};
        for (int p : nothing) {
            C.due("tell(" + p + ")", x.tell(p), -1);
            C.due("text(0) is still the last one", x.text(0), eight(t));
        }
        x.wipe();
        C.due("text(0) behind wipe", x.text(0), eight(t));
        x.feed(1, 0x90);
        C.due("a shorter text", x.tell(0), 3);
        C.due("text(0) of it", x.text(0), 0x706F6EL);
        C.due("text(8) of it", x.text(8), 0);
    }

    private static long eight(String t) {
        long v = 0;
        for (int k = 7; k >= 0; k--) {
            v = v << 8 | t.charAt(k);
        }
        return v;
    }
}
