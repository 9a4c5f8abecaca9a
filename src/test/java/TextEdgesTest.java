/** Section 5 and promises 9 and 10: texts of all forms of memory, of numbers at their edges, and how they are read. */
public final class TextEdgesTest {
    private static final Check C = new Check("TextEdgesTest");
    private static final String[] LONGS = {"eax", "ecx", "edx", "ebx", "esp", "ebp", "esi", "edi"};
    private static final String[] WORDS = {"ax", "cx", "dx", "bx", "sp", "bp", "si", "di"};
    private static final String[] BYTES = {"al", "cl", "dl", "bl", "ah", "ch", "dh", "bh"};
    private static final int[] DISPLACEMENTS = {0, 1, -1, 9, 10, -10, 127, 128, -128, -129, 255, 65536, Integer.MAX_VALUE,
        Integer.MIN_VALUE, Integer.MIN_VALUE + 1};

    public static void main(String[] args) {
        memoryByRm();
        memoryByBaseAndIndex();
        memoryWithoutBase();
        memoryBySize();
        numbersWithSign();
        targetsWithoutSign();
        shiftsByClAnd1();
        registersOfEachSize();
        namesAndOperands();
        conditionsBehindNames();
        theDocumentsOwn();
        promise9TellsEachAnew();
        promise9CountsBytes();
        promise9RefusesWhatIsNone();
        promise10ReadsEightBytes();
        promise10StaysTheLast();
        C.end();
    }

    private static void text(String hex, String want) {
        C.due("the text of " + hex, Fences.textOf(Fences.of(hex), 0), want);
    }

    /** What stands behind a base or an index. */
    private static String signed(int d) {
        if (d == 0) {
            return "";
        }
        return d < 0 ? String.valueOf(d) : "+" + d;
    }

    private static void memoryByRm() {
        C.says("5 TEXTS", "with + between, and instead of that the displacement's own sign if it is below 0 (a displacement 0 is "
            + "left out, if there is a base or an index).");
        for (int rm = 0; rm < 8; rm++) {
            if (rm == 4) {
                continue;
            }
            for (int d : DISPLACEMENTS) {
                text(String.format("8B %02X ", 0x80 + rm) + Fences.le(d), "mov eax,d[" + LONGS[rm] + signed(d) + "]");
                if (d == (byte) d) {
                    text(String.format("8B %02X %02X", 0x40 + rm, d & 255), "mov eax,d[" + LONGS[rm] + signed(d) + "]");
                }
            }
            text(String.format("8B %02X 00 00 00 00", rm), rm == 5 ? "mov eax,d[0]" : "mov eax,d[" + LONGS[rm] + "]");
        }
    }

    private static void memoryByBaseAndIndex() {
        C.says("5 TEXTS", "memory: b, w or d by its SIZE, [ , what there is of: the base; the index, * and 1, 2, 4 or 8; the "
            + "displacement, ]");
        for (int s = 0; s < 256; s++) {
            String base = LONGS[s & 7];
            int i = s >> 3 & 7;
            String index = i == 4 ? "" : LONGS[i] + "*" + (1 << (s >> 6));
            String both = base + (index.isEmpty() ? "" : "+" + index);
            text(String.format("8B 44 %02X 00", s), "mov eax,d[" + both + "]");
            text(String.format("8B 44 %02X 80", s), "mov eax,d[" + both + "-128]");
            text(String.format("8B 84 %02X FF FF FF 7F", s), "mov eax,d[" + both + "+2147483647]");
            if ((s & 7) != 5) {
                text(String.format("8B 04 %02X 00 00 00 00", s), "mov eax,d[" + both + "]");
            } else if (index.isEmpty()) {
                text(String.format("8B 04 %02X 00 00 00 00", s), "mov eax,d[0]");
                text(String.format("8B 04 %02X FE FF FF FF", s), "mov eax,d[-2]");
            } else {
                text(String.format("8B 04 %02X 00 00 00 00", s), "mov eax,d[" + index + "]");
                text(String.format("8B 04 %02X FE FF FF FF", s), "mov eax,d[" + index + "-2]");
                text(String.format("8B 04 %02X 02 00 00 00", s), "mov eax,d[" + index + "+2]");
            }
        }
    }

    private static void memoryWithoutBase() {
        C.says("5 TEXTS", "(a displacement 0 is left out, if there is a base or an index)");
        for (int d : DISPLACEMENTS) {
            text("8B 05 " + Fences.le(d), "mov eax,d[" + d + "]");
            text("8B 04 25 " + Fences.le(d), "mov eax,d[" + d + "]");
            text("8B 04 E5 " + Fences.le(d), "mov eax,d[" + d + "]");
            text("8B 04 0D " + Fences.le(d), "mov eax,d[ecx*1" + signed(d) + "]");
        }
    }

    private static void memoryBySize() {
        C.says("5 TEXTS", "memory: b, w or d by its SIZE");
        text("8A 03", "mov al,b[ebx]");
        text("8B 03", "mov eax,d[ebx]");
        text("66 8B 03", "mov ax,w[ebx]");
        text("66 89 03", "mov w[ebx],ax");
        text("0F B6 03", "movzx eax,b[ebx]");
        text("0F B7 03", "movzx eax,w[ebx]");
        text("0F BE 03", "movsx eax,b[ebx]");
        text("0F BF 03", "movsx eax,w[ebx]");
        text("0F 90 03", "seto b[ebx]");
        text("8D 03", "lea eax,d[ebx]");
        text("0F 1F 03", "nop d[ebx]");
        text("FF 33", "push d[ebx]");
        text("8F 03", "pop d[ebx]");
        text("0F A4 03 01", "shld d[ebx],eax,1");
        text("C6 03 01", "mov b[ebx],1");
        text("D2 03", "rol b[ebx],cl");
    }

    private static void numbersWithSign() {
        C.says("5 TEXTS", "I, I8, S8 as numbers with sign");
        for (int v = -128; v < 128; v++) {
            String b = String.format("%02X", v & 255);
            text("04 " + b, "add al," + v);
            text("6A " + b, "push " + v);
            text("83 C1 " + b, "add ecx," + v);
            text("C1 E1 " + b, "shl ecx," + v);
            text("6B C1 " + b, "imul eax,ecx," + v);
            text("0F AC C1 " + b, "shrd ecx,eax," + v);
            text("C6 03 " + b, "mov b[ebx]," + v);
            text("B4 " + b, "mov ah," + v);
        }
        for (int v : DISPLACEMENTS) {
            String four = Fences.le(v);
            text("05 " + four, "add eax," + v);
            text("68 " + four, "push " + v);
            text("81 C1 " + four, "add ecx," + v);
            text("69 C1 " + four, "imul eax,ecx," + v);
            text("C7 03 " + four, "mov d[ebx]," + v);
            text("B9 " + four, "mov ecx," + v);
            text("A9 " + four, "test eax," + v);
        }
    }

    private static void targetsWithoutSign() {
        C.says("5 TEXTS", "where a jump or call goes as a number without sign");
        long[] targets = {0, 1, 9, 10, 99, 100, 4096, 0x7FFFFFFFL, 0x80000000L, 0x80000001L, 0xFFFFFFF9L, 0xFFFFFFFAL,
            0xFFFFFFFFL, 4294967290L, 4294967289L, 999999999L, 1000000000L};
        for (long t : targets) {
            text("E8 " + Fences.le((int) t - 0x1005), "call " + t);
            text("E9 " + Fences.le((int) t - 0x1005), "jmp " + t);
            text("0F 8F " + Fences.le((int) t - 0x1006), "jg " + t);
        }
        for (int s = -128; s < 128; s++) {
            String b = String.format("%02X", s & 255);
            text("EB " + b, "jmp " + (0x1002 + s));
            text("E2 " + b, "loop " + (0x1002 + s));
            text("E3 " + b, "jecxz " + (0x1002 + s));
            text("70 " + b, "jo " + (0x1002 + s));
        }
        // it goes from the address behind the instruction, wherever that is
        BundleFence x = Fences.of(Fences.nops(2046) + "EB 7F");
        C.due("the last place's text", Fences.textOf(x, 2046), "jmp " + (0x1800 + 127));
    }

    private static void shiftsByClAnd1() {
        C.says("5 TEXTS", "cl and 1 of shifts");
        text("D0 C1", "rol cl,1");
        text("D1 F9", "sar ecx,1");
        text("D2 C1", "rol cl,cl");
        text("D3 3B", "sar d[ebx],cl");
        text("C0 C1 01", "rol cl,1");
        text("C1 C1 00", "rol ecx,0");
    }

    private static void registersOfEachSize() {
        C.says("2 INSTRUCTIONS", "BYTE REGISTERS 0 .. 3: their lowest bytes, al cl dl bl; 4 .. 7 the second bytes of the same "
            + "four, ah ch dh bh. WORD REGISTERS: the lowest WORDS, ax cx dx bx sp bp si di.");
        for (int r = 0; r < 8; r++) {
            for (int g = 0; g < 8; g++) {
                String e = String.format("%02X", 0xC0 + 8 * g + r);
                text("88 " + e, "mov " + BYTES[r] + "," + BYTES[g]);
                text("8A " + e, "mov " + BYTES[g] + "," + BYTES[r]);
                text("89 " + e, "mov " + LONGS[r] + "," + LONGS[g]);
                text("8B " + e, "mov " + LONGS[g] + "," + LONGS[r]);
                text("66 89 " + e, "mov " + WORDS[r] + "," + WORDS[g]);
                text("66 8B " + e, "mov " + WORDS[g] + "," + WORDS[r]);
                text("0F B6 " + e, "movzx " + LONGS[g] + "," + BYTES[r]);
                text("0F BF " + e, "movsx " + LONGS[g] + "," + WORDS[r]);
                text("0F 9F " + e, "setg " + BYTES[r]);
            }
        }
    }

    /** Those that the other tests here do not tell. */
    private static void namesAndOperands() {
        C.says("5 TEXTS", "An instruction's TEXT: its name (j, set, cmov with the condition behind: jo, setno, cmovb ..), and, if it has "
            + "operands, a blank and these, with commas between: registers by their names");
        String[] hexes = {"0F AF C1", "0F AF 01", "0F BC C1", "0F BC 01", "0F BD C1", "0F BD 01", "0F B1 C1", "0F B1 01", "0F C1 C1",
            "0F C1 01", "0F A4 C1 02", "0F AC 01 02", "0F B7 C1", "0F BF C1", "84 C1", "85 C1", "85 01", "86 C1", "87 C1", "86 01",
            "8D 01", "8F C1", "F6 D1", "F7 D9", "F6 21", "F7 E9", "F6 F1", "F7 39", "FE C1", "FF C9", "FF D1", "FF E1", "FF F1",
            "0F 1F C1", "66 90", "F5", "F8", "F9", "98", "99", "F4", "90", "91", "97", "41", "49", "51", "59", "0F C9"};
        String[] texts = {"imul eax,ecx", "imul eax,d[ecx]", "bsf eax,ecx", "bsf eax,d[ecx]", "bsr eax,ecx", "bsr eax,d[ecx]",
            "cmpxchg ecx,eax", "cmpxchg d[ecx],eax", "xadd ecx,eax", "xadd d[ecx],eax", "shld ecx,eax,2", "shrd d[ecx],eax,2",
            "movzx eax,cx", "movsx eax,cx", "test cl,al", "test ecx,eax", "test d[ecx],eax", "xchg cl,al", "xchg ecx,eax",
            "xchg b[ecx],al", "lea eax,d[ecx]", "pop ecx", "not cl", "neg ecx", "mul b[ecx]", "imul ecx", "div cl", "idiv d[ecx]",
            "inc cl", "dec ecx", "call ecx", "jmp ecx", "push ecx", "nop ecx", "nop", "cmc", "clc", "stc", "cwde", "cdq", "hlt", "nop",
            "xchg eax,ecx", "xchg eax,edi", "inc ecx", "dec ecx", "push ecx", "pop ecx", "bswap ecx"};
        for (int i = 0; i < hexes.length; i++) {
            text(hexes[i], texts[i]);
        }
        String[] eight = {"add", "or", "adc", "sbb", "and", "sub", "xor", "cmp"};
        String[] ways = {" cl,al", " ecx,eax", " al,cl", " eax,ecx"};
        for (int n = 0; n < 8; n++) {
            for (int way = 0; way < 4; way++) {
                text(String.format("%02X C1", 8 * n + way), eight[n] + ways[way]);
            }
            text(String.format("%02X 02", 8 * n + 4), eight[n] + " al,2");
            text(String.format("%02X 02 00 00 00", 8 * n + 5), eight[n] + " eax,2");
            text(String.format("80 %02X 02", 0xC1 + 8 * n), eight[n] + " cl,2");
            text(String.format("81 %02X 02 00 00 00", 0xC1 + 8 * n), eight[n] + " ecx,2");
            text(String.format("83 %02X 02", 0x01 + 8 * n), eight[n] + " d[ecx],2");
        }
        String[] shifts = {"rol", "ror", "rcl", "rcr", "shl", "shr", "", "sar"};
        for (int n = 0; n < 8; n++) {
            text(String.format("C1 %02X 02", 0xC1 + 8 * n), n == 6 ? "none" : shifts[n] + " ecx,2");
            text(String.format("C0 %02X 02", 0x01 + 8 * n), n == 6 ? "none" : shifts[n] + " b[ecx],2");
        }
    }

    private static void conditionsBehindNames() {
        C.says("5 TEXTS", "its name (j, set, cmov with the condition behind: jo, setno, cmovb ..)");
        String[] names = {"o", "no", "b", "ae", "e", "ne", "be", "a", "s", "ns", "p", "np", "l", "ge", "le", "g"};
        for (int c = 0; c < 16; c++) {
            text(String.format("%02X FE", 0x70 + c), "j" + names[c] + " 4096");
            text(String.format("0F %02X FA FF FF FF", 0x80 + c), "j" + names[c] + " 4096");
            text(String.format("0F %02X C3", 0x90 + c), "set" + names[c] + " bl");
            text(String.format("0F %02X C3", 0x40 + c), "cmov" + names[c] + " eax,ebx");
        }
    }

    private static void theDocumentsOwn() {
        C.says("5 TEXTS", "(0x00 0x44 0x88 0xFF is \"add b[eax+ecx*4-1],al\".)");
        text("00 44 88 FF", "add b[eax+ecx*4-1],al");
    }

    /** One text behind another: nothing of the one before is in it, for each two of these. */
    private static void promise9TellsEachAnew() {
        C.says("Promise 9", "The TEXT of the instruction at a place.");
        String[] hexes = {"81 84 FC 00 00 00 80 00 00 00 80", "04 05", "05 06 00 00 00", "A8 07", "FF E7", "0F CF", "90", "98", "F4",
            "EB FE", "6A 01", "0F B7 3F", "66 89 FF", "D3 3F", "0F A4 FF 09", "93", "B7 01", "8B 3D 00 00 00 00", "0F 9F 3F",
            "8F 47 01", "C1 F8 00", "6B FF 0A", "FE 0F", "70 00"};
        String[] texts = {"add d[esp+edi*8-2147483648],-2147483648", "add al,5", "add eax,6", "test al,7", "jmp edi", "bswap edi", "nop",
            "cwde", "hlt", "jmp ", "push 1", "movzx edi,w[edi]", "mov di,di", "sar d[edi],cl", "shld edi,edi,9", "xchg eax,ebx",
            "mov bh,1", "mov edi,d[0]", "setg b[edi]", "pop d[edi+1]", "sar eax,0", "imul edi,edi,10", "dec b[edi]", "jo "};
        for (int a = 0; a < hexes.length; a++) {
            for (int b = 0; b < hexes.length; b++) {
                BundleFence x = Fences.of(hexes[a] + " " + hexes[b]);
                int place = Fences.bytes(hexes[a]).length;
                int behind = 0x1000 + place + 2;
                String want = b == 9 ? "jmp " + (behind - 2) : b == 23 ? "jo " + behind : texts[b];
                x.tell(0);
                C.due("the text of " + hexes[b] + " behind " + hexes[a], Fences.textOf(x, place), want);
            }
        }
    }

    private static void promise9CountsBytes() {
        C.says("Promise 9", "The TEXT of the instruction at a place. Answers how many bytes it has; NONE when size() is 0.");
        C.due("the shortest", Fences.of("48 50 90 F4").tell(2), 3);
        C.due("or", Fences.of("09 C0").tell(0), "or eax,eax".length());
        String longest = "cmovno eax,d[eax+ecx*8-2147483648]";
        C.due("a long one", Fences.of("0F 41 84 C8 00 00 00 80").tell(0), longest.length());
        String longer = "test d[eax+ecx*8-2147483648],-2147483648";
        text("F7 84 C8 00 00 00 80 00 00 00 80", longer);
        C.due("the longest", Fences.of("F7 84 C8 00 00 00 80 00 00 00 80").tell(0), longer.length());
    }

    private static void promise9RefusesWhatIsNone() {
        C.says("Promise 9", "NONE when size() is 0");
        BundleFence x = Fences.of("90 0F 05 B8 00 00");
        C.due("tell(0)", x.tell(0), 3);
        for (int p : new int[] {1, 3, 6, 7, -1, 2047, 2048, Integer.MIN_VALUE, Integer.MAX_VALUE}) {
            C.due("size(" + p + ")", x.size(p), 0);
            C.due("tell(" + p + ")", x.tell(p), -1);
            C.due("the last TEXT behind it", x.text(0), 0x706F6EL);
        }
        C.due("tell(0) of an empty image", new BundleFence().tell(0), -1);
    }

    private static void promise10ReadsEightBytes() {
        C.says("Promise 10", "Eight bytes of the last TEXT from byte i on, the first one the lowest; 0 for each that it has not "
            + "(i may be any number).");
        String[] hexes = {"90", "51", "0F 1F C0", "40", "EB FE", "F7 84 C8 00 00 00 80 00 00 00 80"};
        String[] texts = {"nop", "push ecx", "nop eax", "inc eax", "jmp 4096", "test d[eax+ecx*8-2147483648],-2147483648"};
        for (int t = 0; t < texts.length; t++) {
            BundleFence x = Fences.of(hexes[t]);
            C.due("tell(0)", x.tell(0), texts[t].length());
            for (int i = -10; i < texts[t].length() + 4; i++) {
                C.due("text(" + i + ") of " + texts[t], x.text(i), eight(texts[t], i));
            }
            int[] far = {Integer.MIN_VALUE, Integer.MIN_VALUE + 7, Integer.MAX_VALUE, Integer.MAX_VALUE - 6, -8, -2048, 2048,
                0x10000};
            for (int i : far) {
                C.due("text(" + i + ") of " + texts[t], x.text(i), 0);
            }
        }
    }

    private static long eight(String text, int from) {
        long v = 0;
        for (int k = 7; k >= 0; k--) {
            int at = from + k;
            v = v << 8 | (at >= 0 && at < text.length() ? text.charAt(at) : 0);
        }
        return v;
    }

    private static void promise10StaysTheLast() {
        C.says("Promise 10", "Eight bytes of the last TEXT");
        BundleFence x = Fences.looked("51 B8 FF FF FF FF", 32);
        C.due("text(0) before the first", x.text(0), 0);
        C.due("text(-7) before the first", x.text(-7), 0);
        C.due("tell(1)", x.tell(1), "mov eax,-1".length());
        long was = x.text(0);
        long rest = x.text(8);
        C.due("its first eight", was, eight("mov eax,-1", 0));
        C.due("its rest", rest, eight("mov eax,-1", 8));
        // neither a size, nor a look, nor a run makes another one
        x.size(0);
        x.look();
        x.begin(false);
        x.run(3);
        C.due("text(0) behind a run", x.text(0), was);
        x.wipe();
        C.due("text(0) behind wipe()", x.text(0), was);
        C.due("text(8) behind wipe()", x.text(8), rest);
        x.feed(1, 0x90);
        C.due("text(0) behind feed()", x.text(0), was);
        C.due("tell(0) of the shorter one", x.tell(0), 3);
        C.due("text(0)", x.text(0), eight("nop", 0));
        C.due("text(3)", x.text(3), 0);
        C.due("text(8)", x.text(8), 0);
    }
}
