/** Section 2, sentence by sentence: what each opcode is and has behind it, by its length and its TEXT. */
public final class OpcodesTest {
    private static final Check C = new Check("OpcodesTest");
    private static final String[] LONGS = {"eax", "ecx", "edx", "ebx", "esp", "ebp", "esi", "edi"};
    private static final String[] BYTES = {"al", "cl", "dl", "bl", "ah", "ch", "dh", "bh"};
    private static final String[] WORDS = {"ax", "cx", "dx", "bx", "sp", "bp", "si", "di"};
    private static final String[] CONDITIONS = {"o", "no", "b", "ae", "e", "ne", "be", "a", "s", "ns", "p", "np", "l", "ge",
        "le", "g"};

    public static void main(String[] args) {
        registers();
        whatIsBehind();
        numbers();
        formsOfE();
        sizes();
        theEight();
        theEightByDigit();
        oneRegister();
        pushAndImul();
        shortJumps();
        tests();
        exchangesAndMoves();
        leaAndPop();
        registerMoves();
        shifts();
        moveNumbers();
        loopsAndCalls();
        flagsAndHalt();
        singles();
        counting();
        longOnes();
        conditions();
        C.end();
    }

    private static void says(String words) {
        C.says("2 INSTRUCTIONS", words);
    }

    /** The bytes are one instruction with this text, whatever comes behind. */
    private static void is(String hex, String text) {
        BundleFence x = Fences.of(hex + " FF FF");
        C.due("size of " + hex, x.size(0), Fences.bytes(hex).length);
        C.due("text of " + hex, Fences.textOf(x, 0), text);
    }

    private static void none(String hex) {
        BundleFence x = Fences.of(hex + " 00 00 00 00 00 00 00 00 00");
        C.due("size of " + hex, x.size(0), 0);
        C.due("tell of " + hex, x.tell(0), -1);
    }

    private static String hex(String form, Object... codes) {
        return String.format(form, codes);
    }

    private static void registers() {
        says("REGISTERS 0 .. 7: eax ecx edx ebx esp ebp esi edi, LONGS. BYTE REGISTERS 0 .. 3: their lowest bytes, al cl dl bl; "
            + "4 .. 7 the second bytes of the same four, ah ch dh bh. WORD REGISTERS: the lowest WORDS, ax cx dx bx sp bp si di.");
        for (int r = 0; r < 8; r++) {
            is(hex("89 %02X", 0xC0 + r), "mov " + LONGS[r] + ",eax");
            is(hex("88 %02X", 0xC0 + r), "mov " + BYTES[r] + ",al");
            is(hex("66 89 %02X", 0xC0 + r), "mov " + WORDS[r] + ",ax");
            BundleFence x = Fences.bundle(hex("B8 44 33 22 11 B0 99 89 %02X", 0xC0 + r));
            x.begin(true);
            x.run(3);
            C.due("register " + r, x.register(r), 0x11223399);
        }
        says("What is written to a part leaves the other bits as they are.");
        int[] after = {0x112233EE, 0x1122EE44};
        for (int r = 0; r < 8; r++) {
            BundleFence x = Fences.bundle(hex("B%X EE", r));
            x.begin(true);
            x.put(r & 3, 0x11223344);
            x.run(1);
            C.due(BYTES[r], x.register(r & 3), after[r >> 2]);
        }
    }

    private static void whatIsBehind() {
        says("An OPCODE is told by bytes; behind it, in this order, what is told to be there: E, then a number.");
        is("81 84 88 01 00 00 00 02 00 00 00", "add d[eax+ecx*4+1],2");
        is("80 05 01 00 00 00 02", "add b[1],2");
        is("69 48 03 04 00 00 00", "imul ecx,d[eax+3],4");
        is("0F A4 48 03 04", "shld d[eax+3],ecx,4");
    }

    private static void numbers() {
        says("I8 is a byte, S8 a byte with sign, I as many bytes as the operation's SIZE has, L a LONG with sign that is added to "
            + "the address behind the instruction (as S8 is with jumps).");
        is("C1 C0 07", "rol eax,7");
        is("83 C0 80", "add eax,-128");
        is("6A 7F", "push 127");
        is("04 01", "add al,1");
        is("05 01 02 00 00", "add eax,513");
        is("E9 00 00 00 00", "jmp 4101");
        is("E9 FF FF FF FF", "jmp 4100");
        is("E9 00 00 00 80", "jmp 2147487749");
        is("EB 7F", "jmp 4225");
        is("EB 80", "jmp 3970");
        // the same number told as an S8 is one with sign when it is reckoned with
        BundleFence x = Fences.bundle("83 C0 80 6A 80");
        x.begin(true);
        x.run(2);
        C.due("eax behind add eax,-128", x.register(0), -128);
        C.due("what push -128 pushes", Fences.peekLong(x, 0x1FFFC), -128);
    }

    private static void formsOfE() {
        says("E and G: a byte with MODE (bits 7, 6), REG (5 to 3), RM (2 to 0). G is the register REG of the SIZE. E is the register "
            + "RM with MODE 3, else memory: with RM 4 a byte s more: INDEX (bits 5 to 3; 4: none) times 1, 2, 4, 8 by bits 7 and 6, "
            + "and BASE (bits 2 to 0); with other RM the BASE is RM alone.");
        for (int b = 0xC0; b < 0x100; b++) {
            is(hex("89 %02X", b), "mov " + LONGS[b & 7] + "," + LONGS[b >> 3 & 7]);
        }
        is("89 3E", "mov d[esi],edi");
        is("89 34 F7", "mov d[edi+esi*8],esi");
        is("89 34 A7", "mov d[edi],esi");
        is("89 34 2C", "mov d[esp+ebp*1],esi");
        is("89 34 40", "mov d[eax+eax*2],esi");
        is("89 34 99", "mov d[ecx+ebx*4],esi");
        says("With MODE 0 and BASE (or RM) 5 there is no base, but a LONG behind; with MODE 1 an S8, with MODE 2 a LONG comes behind, "
            + "the DISPLACEMENT. The address is base, index and displacement together.");
        is("89 05 04 03 02 01", "mov d[16909060],eax");
        is("89 04 25 04 03 02 01", "mov d[16909060],eax");
        is("89 04 4D 04 03 02 01", "mov d[ecx*2+16909060],eax");
        is("89 45 FC", "mov d[ebp-4],eax");
        is("89 44 4D FC", "mov d[ebp+ecx*2-4],eax");
        is("89 85 04 03 02 01", "mov d[ebp+16909060],eax");
        is("89 84 4D 04 03 02 01", "mov d[ebp+ecx*2+16909060],eax");
        BundleFence x = Fences.bundle("8D 84 4D 04 03 02 01");
        x.begin(true);
        x.put(5, 0x10000000);
        x.put(1, 0x100);
        x.run(1);
        C.due("the address", x.register(0), 0x11020504);
    }

    private static void sizes() {
        says("SIZE is LONG, if nothing is told; 8: bytes; 16: WORDS.");
        is("01 00", "add d[eax],eax");
        is("00 00", "add b[eax],al");
        is("66 89 00", "mov w[eax],ax");
        is("F7 20", "mul d[eax]");
        is("F6 20", "mul b[eax]");
        is("0F 90 00", "seto b[eax]");
        is("8F 00", "pop d[eax]");
    }

    private static void theEight() {
        says("8 n .. 8 n + 5, for n 0 .. 7 add or adc sbb and sub xor cmp: E,G of 8; E,G; G,E of 8; G,E; al,I8; eax,I.");
        String[] names = {"add", "or", "adc", "sbb", "and", "sub", "xor", "cmp"};
        for (int n = 0; n < 8; n++) {
            is(hex("%02X 53 01", 8 * n), names[n] + " b[ebx+1],dl");
            is(hex("%02X 53 01", 8 * n + 1), names[n] + " d[ebx+1],edx");
            is(hex("%02X 53 01", 8 * n + 2), names[n] + " dl,b[ebx+1]");
            is(hex("%02X 53 01", 8 * n + 3), names[n] + " edx,d[ebx+1]");
            is(hex("%02X FE", 8 * n + 4), names[n] + " al,-2");
            is(hex("%02X FE FF FF FF", 8 * n + 5), names[n] + " eax,-2");
            none(hex("%02X C0", 8 * n + 6));
            if (n != 1) {
                none(hex("%02X C0", 8 * n + 7));
            }
        }
    }

    private static void theEightByDigit() {
        says("0x80, 0x81, 0x83: the n-th of the eight, n being the digit: E,I8 of 8; E,I; E,S8.");
        String[] names = {"add", "or", "adc", "sbb", "and", "sub", "xor", "cmp"};
        for (int n = 0; n < 8; n++) {
            is(hex("80 %02X 80", 0xC5 + 8 * n), names[n] + " ch,-128");
            is(hex("81 %02X 80 00 00 00", 0xC5 + 8 * n), names[n] + " ebp,128");
            is(hex("83 %02X 80", 0xC5 + 8 * n), names[n] + " ebp,-128");
            is(hex("83 %02X 01", 8 * n), names[n] + " d[eax],1");
            none(hex("82 %02X 80", 0xC5 + 8 * n));
        }
    }

    private static void oneRegister() {
        says("0x40 + r inc, 0x48 + r dec, 0x50 + r push, 0x58 + r pop.");
        for (int r = 0; r < 8; r++) {
            is(hex("%02X", 0x40 + r), "inc " + LONGS[r]);
            is(hex("%02X", 0x48 + r), "dec " + LONGS[r]);
            is(hex("%02X", 0x50 + r), "push " + LONGS[r]);
            is(hex("%02X", 0x58 + r), "pop " + LONGS[r]);
        }
        none("60");
        none("67");
    }

    private static void pushAndImul() {
        says("0x68 push I, 0x6A push S8. 0x69 imul G,E,I; 0x6B imul G,E,S8.");
        is("68 80 00 00 00", "push 128");
        is("6A 80", "push -128");
        is("69 C8 80 00 00 00", "imul ecx,eax,128");
        is("6B C8 80", "imul ecx,eax,-128");
        none("6C C8");
    }

    private static void shortJumps() {
        says("0x70 + c j S8 (CONDITION c).");
        for (int c = 0; c < 16; c++) {
            is(hex("%02X 02", 0x70 + c), "j" + CONDITIONS[c] + " 4100");
        }
    }

    private static void tests() {
        says("0x84, 0x85 test E,G (8; LONG).");
        is("84 11", "test b[ecx],dl");
        is("85 11", "test d[ecx],edx");
        says("0xA8 test al,I8; 0xA9 test eax,I.");
        is("A8 80", "test al,-128");
        is("A9 80 00 00 00", "test eax,128");
        none("A7");
        none("AA");
    }

    private static void exchangesAndMoves() {
        says("0x86, 0x87 xchg E,G. 0x88, 0x89 mov E,G; 0x8A, 0x8B mov G,E.");
        is("86 11", "xchg b[ecx],dl");
        is("87 11", "xchg d[ecx],edx");
        is("88 11", "mov b[ecx],dl");
        is("89 11", "mov d[ecx],edx");
        is("8A 11", "mov dl,b[ecx]");
        is("8B 11", "mov edx,d[ecx]");
        none("8C 11");
    }

    private static void leaAndPop() {
        says("0x8D lea G,E (memory alone). 0x8F digit 0 pop E.");
        is("8D 11", "lea edx,d[ecx]");
        none("8D D1");
        is("8F 01", "pop d[ecx]");
        is("8F C1", "pop ecx");
        for (int digit = 1; digit < 8; digit++) {
            none(hex("8F %02X", 0xC1 + 8 * digit));
        }
        none("8E 11");
    }

    private static void registerMoves() {
        says("0x90 nop, 0x91 .. 0x97 xchg eax,r. 0x98 cwde, 0x99 cdq.");
        is("90", "nop");
        for (int r = 1; r < 8; r++) {
            is(hex("%02X", 0x90 + r), "xchg eax," + LONGS[r]);
        }
        is("98", "cwde");
        is("99", "cdq");
        none("9A");
        says("0xB0 + r mov r,I8 (byte registers), 0xB8 + r mov r,I.");
        for (int r = 0; r < 8; r++) {
            is(hex("%02X 80", 0xB0 + r), "mov " + BYTES[r] + ",-128");
            is(hex("%02X 80 00 00 00", 0xB8 + r), "mov " + LONGS[r] + ",128");
        }
        none("AF");
    }

    private static void shifts() {
        says("0xC0, 0xC1 E,I8 (8; LONG), 0xD0, 0xD1 E,1, 0xD2, 0xD3 E,cl with digits 0 .. 5 and 7: rol ror rcl rcr shl shr, sar.");
        String[] names = {"rol", "ror", "rcl", "rcr", "shl", "shr", "", "sar"};
        for (int digit = 0; digit < 8; digit++) {
            int e = 0x02 + 8 * digit;
            if (digit == 6) {
                for (int code : new int[] {0xC0, 0xC1, 0xD0, 0xD1, 0xD2, 0xD3}) {
                    none(hex("%02X %02X", code, e));
                }
                continue;
            }
            is(hex("C0 %02X 05", e), names[digit] + " b[edx],5");
            is(hex("C1 %02X 05", e), names[digit] + " d[edx],5");
            is(hex("D0 %02X", e), names[digit] + " b[edx],1");
            is(hex("D1 %02X", e), names[digit] + " d[edx],1");
            is(hex("D2 %02X", e), names[digit] + " b[edx],cl");
            is(hex("D3 %02X", e), names[digit] + " d[edx],cl");
        }
        none("D4 02");
    }

    private static void moveNumbers() {
        says("0xC6, 0xC7 digit 0 mov E,I8 of 8; E,I.");
        is("C6 02 80", "mov b[edx],-128");
        is("C7 02 80 00 00 00", "mov d[edx],128");
        for (int digit = 1; digit < 8; digit++) {
            none(hex("C6 %02X", 2 + 8 * digit));
            none(hex("C7 %02X", 2 + 8 * digit));
        }
        none("C2");
        none("C5");
        none("C8");
    }

    private static void loopsAndCalls() {
        says("0xE2 loop S8, 0xE3 jecxz S8, 0xE8 call L, 0xE9 jmp L, 0xEB jmp S8.");
        is("E2 FE", "loop 4096");
        is("E3 FE", "jecxz 4096");
        is("E8 FB FF FF FF", "call 4096");
        is("E9 FB FF FF FF", "jmp 4096");
        is("EB FE", "jmp 4096");
        for (String code : new String[] {"E0", "E1", "E4", "E7", "EA", "EC"}) {
            none(code);
        }
    }

    private static void flagsAndHalt() {
        says("0xF4 hlt, 0xF5 cmc, 0xF8 clc, 0xF9 stc.");
        is("F4", "hlt");
        is("F5", "cmc");
        is("F8", "clc");
        is("F9", "stc");
        none("F3");
        none("FA");
        none("FD");
    }

    private static void singles() {
        says("0xF6, 0xF7 (8; LONG) digits 0 test E,I; 2 not, 3 neg, 4 mul, 5 imul, 6 div, 7 idiv E.");
        is("F6 C2 80", "test dl,-128");
        is("F7 C2 80 00 00 00", "test edx,128");
        String[] names = {"", "", "not", "neg", "mul", "imul", "div", "idiv"};
        for (int digit = 2; digit < 8; digit++) {
            is(hex("F6 %02X", 0xC2 + 8 * digit), names[digit] + " dl");
            is(hex("F7 %02X", 0xC2 + 8 * digit), names[digit] + " edx");
        }
        none("F6 CA");
        none("F7 CA");
    }

    private static void counting() {
        says("0xFE (8), 0xFF digits 0 inc, 1 dec E; 0xFF digits 2 call, 4 jmp E (MODE 3 alone), 6 push E.");
        is("FE 02", "inc b[edx]");
        is("FE 0A", "dec b[edx]");
        is("FF 02", "inc d[edx]");
        is("FF 0A", "dec d[edx]");
        is("FF D2", "call edx");
        is("FF E2", "jmp edx");
        is("FF 32", "push d[edx]");
        is("FF F2", "push edx");
        none("FF 12");
        none("FF 22");
        for (int digit : new int[] {3, 5, 7}) {
            none(hex("FF %02X", 2 + 8 * digit));
            none(hex("FF %02X", 0xC2 + 8 * digit));
        }
        for (int digit = 2; digit < 8; digit++) {
            none(hex("FE %02X", 2 + 8 * digit));
        }
    }

    private static void longOnes() {
        says("0x0F and: 0x1F digit 0 nop E; 0x40 + c cmov G,E; 0x80 + c j L; 0x90 + c set E of 8 (any REG); 0xA4 shld E,G,I8; 0xAC "
            + "shrd E,G,I8; 0xAF imul G,E; 0xB1 cmpxchg E,G; 0xB6 movzx G,E of 8; 0xB7 movzx G,E of 16; 0xBC bsf G,E; 0xBD bsr G,E; "
            + "0xBE movsx G,E of 8; 0xBF movsx G,E of 16 (G a LONG in all); 0xC1 xadd E,G; 0xC8 + r bswap r.");
        is("0F 1F 02", "nop d[edx]");
        none("0F 1F 0A");
        for (int c = 0; c < 16; c++) {
            is(hex("0F %02X 0A", 0x40 + c), "cmov" + CONDITIONS[c] + " ecx,d[edx]");
            is(hex("0F %02X FA FF FF FF", 0x80 + c), "j" + CONDITIONS[c] + " 4096");
            is(hex("0F %02X %02X", 0x90 + c, 2 + 8 * (c & 7)), "set" + CONDITIONS[c] + " b[edx]");
        }
        is("0F A4 0A 80", "shld d[edx],ecx,-128");
        is("0F AC 0A 1F", "shrd d[edx],ecx,31");
        is("0F AF 0A", "imul ecx,d[edx]");
        is("0F B1 0A", "cmpxchg d[edx],ecx");
        is("0F B6 0A", "movzx ecx,b[edx]");
        is("0F B7 0A", "movzx ecx,w[edx]");
        is("0F BC 0A", "bsf ecx,d[edx]");
        is("0F BD 0A", "bsr ecx,d[edx]");
        is("0F BE 0A", "movsx ecx,b[edx]");
        is("0F BF 0A", "movsx ecx,w[edx]");
        is("0F B6 CA", "movzx ecx,dl");
        is("0F BF CA", "movsx ecx,dx");
        is("0F C1 0A", "xadd d[edx],ecx");
        for (int r = 0; r < 8; r++) {
            is(hex("0F %02X", 0xC8 + r), "bswap " + LONGS[r]);
        }
    }

    private static void conditions() {
        says("CONDITIONS 0 .. 15: o CF.. are told by FLAGS: o OF; no; b CF; ae; e ZF; ne; be CF or ZF; a; s SF; ns; p PF; np; l SF "
            + "and OF differ; ge; le ZF or l; g (each second one: the one before is not so).");
        int[] bits = {1, 4, 64, 128, 2048};
        for (int all = 0; all < 32; all++) {
            int flags = 0;
            for (int k = 0; k < 5; k++) {
                flags |= (all >> k & 1) != 0 ? bits[k] : 0;
            }
            // no instruction leaves ZF with SF, or without PF
            if ((flags & 64) != 0 && (flags & (128 | 4)) != 4) {
                continue;
            }
            boolean[] holds = held(flags);
            for (int c = 0; c < 16; c++) {
                BundleFence x = Fences.bundle(Steps.preamble(flags) + hex(" 0F %02X C0", 0x90 + c));
                x.begin(true);
                x.run(4);
                C.due("set" + CONDITIONS[c] + " with " + flags, (x.register(0) & 255) == 1, holds[c >> 1] == (c % 2 == 0));
            }
        }
    }

    /** The first of each two CONDITIONS. */
    private static boolean[] held(int flags) {
        boolean less = (flags >> 7 & 1) != (flags >> 11 & 1);
        boolean zero = (flags & 64) != 0;
        return new boolean[] {(flags & 2048) != 0, (flags & 1) != 0, zero, (flags & 65) != 0, (flags & 128) != 0,
            (flags & 4) != 0, less, zero || less};
    }
}
