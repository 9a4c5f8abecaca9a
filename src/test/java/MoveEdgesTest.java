/** Section 3: exchanges, the stack, jumps and conditions at their edges. */
public final class MoveEdgesTest {
    private static final Check C = new Check("MoveEdgesTest");
    private static final Steps S = new Steps(C);
    private static final int LEAST = Integer.MIN_VALUE;
    private static final String HEAD = "3 WHAT THEY DO";
    private static final String[] LONGS = {"eax", "ecx", "edx", "ebx", "esp", "ebp", "esi", "edi"};
    /** Each that an add and a clc or stc can leave. */
    private static final String[] FLAGS = {"", "C", "P", "CP", "PZ", "CPZ", "S", "CS", "PS", "CPS", "O", "CO", "PO", "CPO", "SO",
        "CSO", "PSO", "CPSO", "PZO", "CPZO"};

    public static void main(String[] args) {
        conditions();
        conditionsWithEveryFlag();
        cmovReadsInAnyCase();
        setIsOneOrZero();
        xchgChangesBoth();
        xaddSums();
        cmpxchgCompares();
        pushAsItWasBefore();
        popThenWritten();
        popToMemoryWithEspAsItIsThen();
        stackPointerWraps();
        callsAndJumps();
        targetsWrap();
        loops();
        jecxzLooksAtZero();
        carryAlone();
        eachIsDoneAnew();
        nopReadsNothing();
        addressOfEachForm();
        leaIsTheAddress();
        C.end();
    }

    /** What condition c says of flags (CF 1, PF 4, ZF 64, SF 128, OF 2048). */
    private static boolean holds(int c, int f) {
        boolean cf = (f & 1) != 0;
        boolean zf = (f & 64) != 0;
        boolean less = (f & 128) != 0 != ((f & 2048) != 0);
        boolean[] even = {(f & 2048) != 0, cf, zf, cf || zf, (f & 128) != 0, (f & 4) != 0, less, zf || less};
        return even[c / 2] == (c % 2 == 0);
    }

    private static void conditions() {
        C.says("2 INSTRUCTIONS", "o OF; no; b CF; ae; e ZF; ne; be CF or ZF; a; s SF; ns; p PF; np; l SF and OF differ; ge; le ZF "
            + "or l; g (each second one: the one before is not so).");
        for (String f : FLAGS) {
            for (int c = 0; c < 16; c++) {
                boolean is = holds(c, Steps.flagsOf(f));
                S.row(String.format("%02X 7F", 0x70 + c), "f=" + f, is ? "eip=1086" : "");
                S.row(String.format("%02X 80", 0x70 + c), "f=" + f, is ? "eip=F87" : "");
                S.row(String.format("0F %02X FF FF FF 7F", 0x80 + c), "f=" + f, is ? "eip=8000100A" : "");
                S.row(String.format("0F %02X C1", 0x90 + c), "f=" + f, is ? "ecx=22222201" : "ecx=22222200");
                S.row(String.format("0F %02X C1", 0x40 + c), "f=" + f, is ? "eax=22222222" : "");
            }
        }
    }

    /** All 32 of them: an add leaves no ZF without PF, but bsf changes ZF alone. */
    private static void conditionsWithEveryFlag() {
        C.says(HEAD, "set: 1 if it holds, else 0.");
        boolean[] seen = new boolean[32];
        for (String f : FLAGS) {
            for (int e = 0; e < 2; e++) {
                // bsf ecx,edx: ZF alone changes
                BundleFence x = Steps.ready("0F BC CA 0F 90 C3 0F 92 C7 0F 94 03 0F 9C 43 01 0F 9E 43 02 0F 96 43 03", "f=" + f
                    + " edx=" + e);
                x.run(1);
                int flags = x.told(7);
                seen[flags & 1 | flags >> 1 & 2 | flags >> 4 & 12 | flags >> 7 & 16] = true;
                x.run(2);
                C.due("seto with " + flags, x.register(3) & 255, flags >> 11 & 1);
                C.due("setb with " + flags, x.register(3) >> 8 & 255, flags & 1);
                x.put(3, 0x10100);
                x.run(4);
                C.due("sete with " + flags, x.peek(0x10100), flags >> 6 & 1);
                C.due("setl with " + flags, x.peek(0x10101), holds(12, flags) ? 1 : 0);
                C.due("setle with " + flags, x.peek(0x10102), holds(14, flags) ? 1 : 0);
                C.due("setbe with " + flags, x.peek(0x10103), holds(6, flags) ? 1 : 0);
            }
        }
        int all = 0;
        for (boolean s : seen) {
            all += s ? 1 : 0;
        }
        C.due("how many of the 32 were seen", all, 32);
    }

    private static void cmovReadsInAnyCase() {
        C.says(HEAD, "cmov: moved if the condition holds (memory is read in any case).");
        for (int c = 0; c < 16; c++) {
            for (String f : new String[] {"f=", "f=CPZO", "f=S", "f=O"}) {
                boolean is = holds(c, Steps.flagsOf(f.substring(2)));
                String hex = String.format("0F %02X 03", 0x40 + c);
                S.row(hex, f + " m=80000001", is ? "eax=80000001" : "");
                S.not(hex, f + " ebx=20000", 5);
                S.not(hex, f + " ebx=1FFFD", 5);
                S.not(hex, f + " ebx=FFFFFFFF", 5);
                S.row(hex, f + " ebx=1FFFC", is ? "eax=0" : "");
            }
        }
    }

    private static void setIsOneOrZero() {
        C.says("2 INSTRUCTIONS", "0x90 + c set E of 8 (any REG)");
        for (int reg = 0; reg < 8; reg++) {
            S.row(String.format("0F 92 %02X", 0xC1 + 8 * reg), "f=C", "ecx=22222201");
            S.row(String.format("0F 93 %02X", 0xC5 + 8 * reg), "f=C", "ecx=22220022");
            S.row(String.format("0F 92 %02X", 0x03 + 8 * reg), "f=C m=FFFFFFFF", "m=FFFFFF01");
        }
        S.not("0F 92 03", "ebx=1000", 6);
        S.not("0F 93 03", "ebx=20000", 5);
    }

    private static void xchgChangesBoth() {
        C.says(HEAD, "xchg (both change)");
        for (int r = 1; r < 8; r++) {
            S.row(String.format("%02X", 0x90 + r), "eax=1 " + LONGS[r] + "=FFFFFFFF f=CPZO", "eax=FFFFFFFF " + LONGS[r] + "=1");
            S.row(String.format("87 %02X", 0xC0 + r), "eax=1 " + LONGS[r] + "=FFFFFFFF", "eax=FFFFFFFF " + LONGS[r] + "=1");
        }
        S.row("87 C0", "eax=80000000", "");
        S.row("86 E0", "eax=FF0180FE", "eax=FF01FE80");
        S.row("86 C1", "eax=12345680 ecx=ABCDEF7F", "eax=1234567F ecx=ABCDEF80");
        S.row("87 1B", "m=7", "ebx=7 m=10100");
        S.row("87 04 24", "s=80000000", "eax=80000000 s=11111111");
        S.not("87 03", "ebx=20000", 5);
        S.not("87 03", "ebx=1000", 6);
        S.not("86 03", "ebx=1000", 6);
        S.not("86 03", "ebx=FFF", 5);
    }

    private static void xaddSums() {
        C.says(HEAD, "xadd: G becomes E, E becomes the sum of both, flags as add.");
        S.row("0F C1 C1", "ecx=FFFFFFFF eax=1", "eax=FFFFFFFF ecx=0 f=CPZ");
        S.row("0F C1 C1", "ecx=7FFFFFFF eax=1", "eax=7FFFFFFF ecx=80000000 f=PSO");
        S.row("0F C1 C1", "ecx=0 eax=0 f=CSO", "f=PZ");
        S.row("0F C1 C1", "ecx=80000000 eax=80000000", "ecx=0 f=CPZO");
        S.row("0F C1 03", "m=FFFFFFFF eax=FFFFFFFF", "m=FFFFFFFE f=CS");
        // G is E: it becomes the sum
        S.row("0F C1 C9", "ecx=80000000", "ecx=0 f=CPZO");
        S.row("0F C1 C9", "ecx=3 f=C", "ecx=6 f=P");
        S.not("0F C1 03", "ebx=1000 f=C", 6);
        S.not("0F C1 03", "ebx=1FFFD f=C", 5);
    }

    private static void cmpxchgCompares() {
        C.says(HEAD, "cmpxchg: as cmp eax,E; if they are the same, E becomes G, else eax becomes E (and E is not written).");
        S.row("0F B1 D1", "eax=0 ecx=0", "ecx=33333333 f=PZ");
        S.row("0F B1 D1", "eax=80000000 ecx=80000000 f=CSO", "ecx=33333333 f=PZ");
        S.row("0F B1 D1", "eax=0 ecx=1", "eax=1 f=CPS");
        S.row("0F B1 D1", "eax=80000000 ecx=1", "eax=1 f=PO");
        S.row("0F B1 D1", "eax=7FFFFFFF ecx=FFFFFFFF", "eax=FFFFFFFF f=CPSO");
        S.row("0F B1 C8", "eax=5", "eax=22222222 f=PZ");
        S.row("0F B1 C9", "eax=22222222", "f=PZ");
        // eax is G, too
        S.row("0F B1 C1", "eax=22222222", "f=PZ");
        S.row("0F B1 13", "eax=5A5A5A5A", "m=33333333 f=PZ");
        S.row("0F B1 13", "eax=5A5A5A5B", "eax=5A5A5A5A f=");
        // what is not the same is read from the image, and not written there
        int[] b = Fences.bytes(Steps.preamble(0));
        String there = String.format("%02X%02X%02X%02X", b[3], b[2], b[1], b[0]);
        S.not("0F B1 13", "ebx=1000 eax=" + there, 6);
        BundleFence x = Steps.ready("0F B1 13", "ebx=1000 eax=0");
        C.due("cmpxchg with the image", x.run(1), 1);
        C.due("eax behind it", String.format("%08X", x.register(0)), there);
        S.not("0F B1 13", "ebx=20000 eax=0", 5);
        S.not("0F B1 13", "ebx=0 eax=0", 5);
    }

    private static void pushAsItWasBefore() {
        C.says(HEAD, "push: esp is 4 less, the LONG (as it was before) goes there");
        for (int r = 0; r < 8; r++) {
            String value = r == 4 ? "" : LONGS[r] + "=87654321";
            String want = "esp=101FC t=" + (r == 4 ? "10200" : "87654321");
            S.row(String.format("%02X", 0x50 + r), value + " f=CSO", want);
            S.row(String.format("FF %02X", 0xF0 + r), value, want);
        }
        S.row("FF 34 24", "s=80000001", "esp=101FC t=80000001");
        S.row("FF 74 24 FC", "t=7", "esp=101FC t=7");
        S.row("6A 80", "", "esp=101FC t=FFFFFF80");
        S.row("6A 7F", "", "esp=101FC t=7F");
        S.row("68 00 00 00 80", "", "esp=101FC t=80000000");
    }

    private static void popThenWritten() {
        C.says(HEAD, "pop: it is taken from there, esp is 4 more, then it is written (pop esp: esp becomes it");
        for (int r = 0; r < 8; r++) {
            String want = r == 4 ? "esp=87654321" : "esp=10204 " + LONGS[r] + "=87654321";
            S.row(String.format("%02X", 0x58 + r), "s=87654321 f=CSO", want);
            S.row(String.format("8F %02X", 0xC0 + r), "s=87654321", want);
        }
        S.row("5C", "s=0", "esp=0");
        S.row("5C", "s=FFFFFFFF", "esp=FFFFFFFF");
    }

    private static void popToMemoryWithEspAsItIsThen() {
        C.says(HEAD, "pop to memory reckons its address with esp as it is then)");
        S.row("8F 44 24 FC", "s=9", "esp=10204");
        S.row("8F 44 24 F8", "s=9 t=1", "t=9 esp=10204");
        S.row("8F 04 24", "esp=10100 m=5 n=6", "n=5 esp=10104");
        S.row("8F 04 0C", "ecx=FFFFFFF8 s=9 t=1", "t=9 esp=10204");
        // the same at DATA's end: esp is one LONG further then
        S.not("8F 04 24", "esp=1FFFC", 5);
        S.row("8F 04 24", "esp=1FFF8", "esp=1FFFC");
        S.row("8F 44 24 FC", "esp=1FFFC", "esp=20000");
    }

    private static void stackPointerWraps() {
        C.says("6 RUNNING", "An access that reaches beyond 0xFFFFFFFF goes on at 0: it is in none of these.");
        for (String esp : new String[] {"0", "1", "2", "3", "4", "FFFFFFFF"}) {
            S.not("51", "esp=" + esp, 6);
            S.not("59", "esp=" + esp, 5);
            S.not("E8 00 00 00 00", "esp=" + esp, 6);
        }
        S.not("59", "esp=FFFFFFFC", 5);
        S.not("59", "esp=FFFFFFFD", 5);
        S.not("8B 03", "ebx=FFFFFFFD", 5);
        S.not("89 03", "ebx=FFFFFFFD", 6);
        S.not("8B 43 7F", "ebx=FFFFFFFF", 5);
    }

    private static void callsAndJumps() {
        C.says(HEAD, "call: the address behind it is pushed, then as jmp (to what the register was before).");
        S.row("E8 00 00 00 00", "f=CSO", "esp=101FC t=100A eip=100A");
        S.row("E8 FB FF FF FF", "", "esp=101FC t=100A eip=1005");
        for (int r = 0; r < 8; r++) {
            String to = r == 4 ? "10200" : "89ABCDEF";
            String before = r == 4 ? "" : LONGS[r] + "=89ABCDEF";
            S.row(String.format("FF %02X", 0xD0 + r), before, "esp=101FC t=1007 eip=" + to);
            S.row(String.format("FF %02X", 0xE0 + r), before, "eip=" + to);
        }
        S.not("FF D1", "esp=10003", 5);
        S.row("FF D1", "esp=10004 ecx=0", "esp=10000 eip=0");
        S.not("FF D1", "esp=1003", 6);
    }

    private static void targetsWrap() {
        C.says("2 INSTRUCTIONS", "L a LONG with sign that is added to the address behind the instruction (as S8 is with jumps).");
        S.row("E9 00 00 00 00", "", "eip=100A");
        S.row("E9 FF FF FF 7F", "", "eip=80001009");
        S.row("E9 00 00 00 80", "", "eip=8000100A");
        S.row("E9 F5 EF FF FF", "", "eip=FFFFFFFF");
        S.row("E9 F6 EF FF FF", "", "eip=0");
        S.row("E8 F6 EF FF FF", "", "esp=101FC t=100A eip=0");
        S.row("EB 7F", "", "eip=1086");
        S.row("EB 80", "", "eip=F87");
        S.row("EB FE", "", "eip=1005");
        S.row("0F 83 F5 EF FF FF", "", "eip=0");
    }

    private static void loops() {
        C.says(HEAD, "loop: ecx is one less; a jump, if it is not 0 then");
        S.row("E2 10", "ecx=1 f=CSO", "ecx=0");
        S.row("E2 10", "ecx=2 f=CPZO", "ecx=1 eip=1017");
        S.row("E2 10", "ecx=0", "ecx=FFFFFFFF eip=1017");
        S.row("E2 10", "ecx=FFFFFFFF", "ecx=FFFFFFFE eip=1017");
        S.row("E2 80", "ecx=80000000", "ecx=7FFFFFFF eip=F87");
        S.row("E2 10", "ecx=10000", "ecx=FFFF eip=1017");
        S.row("E2 10", "ecx=10001", "ecx=10000 eip=1017");
    }

    private static void jecxzLooksAtZero() {
        C.says(HEAD, "jecxz: if ecx is 0.");
        S.row("E3 10", "ecx=0 f=CSO", "eip=1017");
        for (String ecx : new String[] {"1", "FFFFFFFF", "80000000", "10000", "100"}) {
            S.row("E3 10", "f=PZ ecx=" + ecx, "");
        }
    }

    private static void carryAlone() {
        C.says(HEAD, "clc, stc, cmc: CF 0, 1, the other way.");
        for (String f : FLAGS) {
            String rest = f.replace("C", "");
            S.row("F8", "f=" + f, "f=" + rest);
            S.row("F9", "f=" + f, "f=C" + rest);
            S.row("F5", "f=" + f, f.equals(rest) ? "f=C" + rest : "f=" + rest);
        }
    }

    /** One instruction behind another: nothing of the one before is in it. */
    private static void eachIsDoneAnew() {
        C.says("2 INSTRUCTIONS", "An OPCODE is told by bytes; behind it, in this order, what is told to be there");
        String[] before = {"B9 00 00 00 00", "8B 3D 00 00 01 00", "8D BC F8 00 01 00 00", "0F 9F C7", "66 89 FF", "83 E7 E0", "90"};
        String[] hexes = {"04 05", "05 05 00 00 00", "2C FB", "83 C0 05", "0C 05", "B0 05", "6A 05"};
        for (String a : before) {
            for (String b : hexes) {
                BundleFence x = Fences.bundle(a + " " + b);
                x.begin(true);
                C.due("run(2) of " + a + " " + b, x.run(2), 2);
                int got = b.equals("6A 05") ? Fences.peekLong(x, 0x1FFFC) : x.register(0);
                C.due("what " + b + " makes behind " + a, got, 5);
            }
        }
        // a test of al and of eax, and a cdq, behind another register's
        BundleFence x = Fences.bundle("83 E7 E0 A8 01 0F BC FF A9 02 00 00 00 99");
        x.begin(true);
        x.put(0, 1);
        x.put(7, -1);
        x.run(2);
        C.due("FLAGS of test al,1", x.told(7), 0);
        x.run(2);
        C.due("FLAGS of test eax,2", x.told(7), 68);
        x.put(0, LEAST);
        x.run(1);
        C.due("edx behind cdq", x.register(2), -1);
    }

    private static void nopReadsNothing() {
        C.says(HEAD, "nop (E is not read): no flags.");
        S.row("0F 1F 03", "ebx=20000 f=CSO", "");
        S.row("0F 1F 05 00 00 00 00", "f=PZ", "");
        S.row("0F 1F 04 24", "esp=FFFFFFFF", "");
        S.row("90", "f=CSO", "");
        S.row("66 90", "f=PZ", "");
    }

    /** Every form of E, against the words that tell it. */
    private static void addressOfEachForm() {
        C.says("2 INSTRUCTIONS", "INDEX (bits 5 to 3; 4: none) times 1, 2, 4, 8 by bits 7 and 6, and BASE (bits 2 to 0); with other RM "
            + "the BASE is RM alone.");
        C.says("2 INSTRUCTIONS", "The address is base, index and displacement together.");
        int[] values = {0x11, 0x20000003, 0x7FFFFFFF, 0x80000000, 0xFFFFFFFF, 0xC0000001, 5, 0x12345678};
        int[] far = {0, 0x7FFFFFFF, 0x80000000, 0xFFFFFFFF, 0x00010000};
        for (int mode = 0; mode < 3; mode++) {
            for (int rm = 0; rm < 8; rm++) {
                for (int s = 0; s < (rm == 4 ? 256 : 1); s++) {
                    for (int d : mode == 1 ? new int[] {0, 127, -128} : far) {
                        address(mode, rm, s, d, values);
                    }
                }
            }
        }
    }

    private static void address(int mode, int rm, int s, int d, int[] values) {
        int base = rm == 4 ? s & 7 : rm;
        boolean noBase = mode == 0 && base == 5;
        int want = noBase ? 0 : values[base];
        if (rm == 4 && (s >> 3 & 7) != 4) {
            want += values[s >> 3 & 7] * (1 << (s >> 6));
        }
        StringBuilder hex = new StringBuilder(String.format("8D %02X ", mode << 6 | rm));
        if (rm == 4) {
            hex.append(String.format("%02X ", s));
        }
        if (mode == 1) {
            hex.append(String.format("%02X", d & 255));
        } else if (mode == 2 || noBase) {
            hex.append(Fences.le(d));
        }
        want += mode != 0 || noBase ? d : 0;
        BundleFence x = Fences.bundle(hex.toString());
        x.begin(true);
        for (int k = 0; k < 8; k++) {
            x.put(k, values[k]);
        }
        C.due("run(1) of " + hex, x.run(1), 1);
        C.due("the address of " + hex, x.register(0), want);
    }

    private static void leaIsTheAddress() {
        C.says(HEAD, "lea (the address)");
        S.row("8D 03", "ebx=0 f=CSO", "eax=0");
        S.row("8D 43 7F", "ebx=FFFFFF81", "eax=0");
        S.row("8D 43 80", "ebx=7F", "eax=FFFFFFFF");
        S.row("8D 84 CB FF FF FF 7F", "ebx=1 ecx=10000000", "eax=0");
        S.row("8D 05 FF FF FF FF", "", "eax=FFFFFFFF");
        S.row("8D 64 24 04", "", "esp=10204");
        S.row("8D 04 64", "", "eax=10200");
    }
}
