/** The sentences of the document that no other test names: what they say most plainly, in a few answers each. */
public final class SentencesTest {
    private static final Check C = new Check("SentencesTest");
    private static final Steps S = new Steps(C);
    private static final String DO = "3 WHAT THEY DO";
    private static final String LOOK = "4 LOOKING THROUGH";
    private static final String FENCES_EBX = "81 E3 FF FF 00 00 81 CB 00 00 01 00 ";
    private static final String FENCES_ESP = "81 E4 FF FF 00 00 81 CC 00 00 01 00 ";

    public static void main(String[] args) {
        lowestByteFirst();
        addressesHaveNoSign();
        placesFromZeroOn();
        margins();
        bundles();
        flagsAreFive();
        whatIsNotToldStays();
        productsWithOne();
        shiftsByOneEach();
        movesLeaveFlags();
        stackUnits();
        anyOtherInstruction();
        theSizesPlace();
        theFaultsPlace();
        numbersAreDecimal();
        stepsAreInstructionsOrServices();
        lookLooksThrough();
        stopAnswersWhatWas();
        C.end();
    }

    private static void lowestByteFirst() {
        C.says("Terms", "Numbers 0x.. are to the base 16. WORDS have 16 bits, LONGS 32; of bytes that are one number the lowest comes "
            + "first; all reckoning wraps to its size.");
        // mov eax,0x12345678; push eax; mov w[ebx],ax; mov eax,d[ebx]
        BundleFence x = Fences.bundle("B8 78 56 34 12 50 66 89 03 8B 03");
        x.begin(true);
        C.due("EIP 0x1000", x.told(1), 4096);
        x.put(3, Fences.DATA);
        x.run(3);
        C.due("the LONG", x.register(0), 305419896);
        int[] pushed = {0x78, 0x56, 0x34, 0x12};
        int[] written = {0x78, 0x56, 0, 0};
        for (int i = 0; i < 4; i++) {
            C.due("byte " + i + " of the LONG", x.peek(0x1FFFC + i), pushed[i]);
            C.due("byte " + i + " of the WORD", x.peek(Fences.DATA + i), written[i]);
        }
        x.run(1);
        C.due("what is read of it", x.register(0), 0x5678);
    }

    private static void addressesHaveNoSign() {
        C.says("1 PLACES", "ADDRESSES are LONGS without sign.");
        BundleFence x = Fences.bundle("");
        for (int a : new int[] {-1, Integer.MIN_VALUE, 0x80010000, 0x80001000, 0xFFFF1000, Integer.MAX_VALUE}) {
            C.due("peek(" + a + ")", x.peek(a), -1);
            C.refused("poke(" + a + ")", IllegalArgumentException.class, () -> x.poke(a, 1));
        }
        // the highest addresses are in no MARGINS, and none below 0 is near DATA
        S.not("88 0B", "ebx=80010000", 6);
        S.not("88 0B", "ebx=FFFFFFFF", 6);
        S.not("8A 0B", "ebx=80010000", 5);
        S.row("88 8B 00 00 02 00", "ebx=FFFF0100 ecx=77", "m=5A5A5A77");
        S.row("8A 8B 00 01 01 80", "ebx=80000000 m=77", "ecx=22222277");
    }

    private static void placesFromZeroOn() {
        C.says("1 PLACES", "(PLACES are told from 0 on, i).");
        BundleFence x = Fences.of(Fences.filled("B8 01 00 00 00 40", 32));
        C.due("size(0)", x.size(0), 5);
        C.due("size(5)", x.size(5), 1);
        C.due("size(31)", x.size(31), 1);
        C.due("size(32)", x.size(32), 0);
        x.begin(true);
        C.due("run(2)", x.run(2), 2);
        C.due("passed(0)", x.passed(0), 1);
        C.due("passed(1)", x.passed(1), 0);
        C.due("passed(5)", x.passed(5), 1);
        C.due("EIP", x.told(1), 0x1006);
    }

    private static void margins() {
        C.says("1 PLACES", "MARGINS are the addresses 0xF000 .. 0xFFFF and 0x20000 .. 0x20FFF.");
        for (String near : new String[] {"F000", "FFFF", "20000", "20FFF"}) {
            S.not("88 0B", "ebx=" + near, 5);
        }
        for (String far : new String[] {"EFFF", "21000"}) {
            S.not("88 0B", "ebx=" + far, 6);
        }
        // they are not DATA: nothing is read there, or poked
        S.not("8A 0B", "ebx=FFFF", 5);
        C.refused("poke(0xF000)", IllegalArgumentException.class, () -> new BundleFence().poke(0xF000, 1));
        C.refused("poke(0x20FFF)", IllegalArgumentException.class, () -> new BundleFence().poke(0x20FFF, 1));
        C.due("peek(0x20000)", new BundleFence().peek(0x20000), -1);
    }

    private static void bundles() {
        C.says("1 PLACES", "A BUNDLE are 32 addresses from a multiple of 32 on.");
        for (int place = 0; place < 91; place++) {
            BundleFence x = Fences.of(Fences.filled(Fences.nops(place) + "B8 90 90 90 90", 96));
            boolean is = place % 32 <= 27;
            C.due("look() with five bytes at " + place, x.look(), is ? 92 : -1);
            C.due("its place", x.place(), is ? -1 : place);
        }
    }

    private static void flagsAreFive() {
        C.says(DO, "FLAGS are CF, PF, ZF, SF, OF.");
        // the i386 has one more, for the lowest four bits
        S.row("04 01", "eax=0F f=CPZ", "eax=10 f=");
        S.row("2C 01", "eax=10 f=", "eax=0F f=P");
        for (int al = 0; al < 256; al++) {
            BundleFence x = Fences.bundle(String.format("B0 %02X 04 7F 14 81 F9", al));
            x.begin(true);
            for (int i = 0; i < 4; i++) {
                x.run(1);
                C.due("other FLAGS with " + al, x.told(7) & ~(1 | 4 | 64 | 128 | 2048), 0);
            }
        }
    }

    private static void whatIsNotToldStays() {
        C.says(DO, "What is not told stays.");
        S.row("0F BC C1", "ecx=0 f=CPSO", "f=CPZSO");
        S.row("0F BD C1", "ecx=8 f=CPZO", "eax=3 f=CPO");
        S.row("D1 C1", "ecx=1 f=PZ", "ecx=2 f=PZ");
        S.row("41", "ecx=1 f=C", "ecx=2 f=C");
        S.row("F9", "f=PZO", "f=CPZO");
        S.row("F6 E1", "eax=AAAA0302 ecx=3", "eax=AAAA0006 f=P");
        S.row("F7 F1", "eax=7 edx=0 ecx=2 f=CPZO", "eax=3 edx=1");
        S.row("FF 33", "m=12345678 f=CSO", "esp=101FC t=12345678");
        S.row("C0 C1 00", "ecx=81 f=CPZ", "");
    }

    private static void productsWithOne() {
        C.says(DO, "mul, imul with one: ax becomes al times E (8), edx and eax (the higher half in edx) eax times E; by the lower half; "
            + "CF and OF are 1 if the higher half is not 0 (mul), or is not the sign of the lower half in all bits (imul).");
        S.row("F6 E1", "eax=111111FF ecx=FF", "eax=1111FE01 f=CO");
        S.row("F6 E9", "eax=111111FF ecx=FF", "eax=11110001 f=");
        S.row("F6 E9", "eax=11111180 ecx=1", "eax=1111FF80 f=S");
        S.row("F6 E9", "eax=11111180 ecx=FF", "eax=11110080 f=CSO");
        S.row("F7 E1", "eax=FFFFFFFF ecx=FFFFFFFF", "eax=1 edx=FFFFFFFE f=CO");
        S.row("F7 E9", "eax=FFFFFFFF ecx=FFFFFFFF", "eax=1 edx=0 f=");
        S.row("F7 E9", "eax=80000000 ecx=1", "eax=80000000 edx=FFFFFFFF f=PS");
        S.row("F7 E9", "eax=80000000 ecx=FFFFFFFF", "eax=80000000 edx=0 f=CPSO");
        S.row("F7 23", "eax=10000 m=10000", "eax=0 edx=1 f=CPZO");
    }

    private static void shiftsByOneEach() {
        C.says(DO, "Each time: rol: the highest bit comes in below, CF is it; ror: the lowest comes in above, CF is it; rcl, rcr: "
            + "likewise, but CF (as it was) comes in, and becomes the bit that went out; shl, shr: 0 comes in; sar: the highest bit "
            + "stays. OF behind each: rol, rcl, shl: the highest bit is not CF; ror, rcr: the two highest bits differ; shr: the "
            + "highest bit as it was before; sar 0. shl, shr, sar: by the result, too.");
        S.row("D1 C1", "ecx=80000001 f=", "ecx=3 f=CO");
        S.row("D1 C1", "ecx=40000000 f=C", "ecx=80000000 f=O");
        S.row("D1 C1", "ecx=C0000000 f=O", "ecx=80000001 f=C");
        S.row("D1 C9", "ecx=1 f=", "ecx=80000000 f=CO");
        S.row("D1 C9", "ecx=2 f=CO", "ecx=1 f=");
        S.row("D1 C9", "ecx=80000001 f=", "ecx=C0000000 f=C");
        S.row("D1 D1", "ecx=80000000 f=", "ecx=0 f=CO");
        S.row("D1 D1", "ecx=40000000 f=C", "ecx=80000001 f=O");
        S.row("D1 D9", "ecx=1 f=", "ecx=0 f=C");
        S.row("D1 D9", "ecx=0 f=C", "ecx=80000000 f=O");
        S.row("D1 E1", "ecx=C0000000 f=O", "ecx=80000000 f=CPS");
        S.row("D1 E1", "ecx=80000000 f=", "ecx=0 f=CPZO");
        S.row("D1 E9", "ecx=80000001 f=", "ecx=40000000 f=CPO");
        S.row("D1 E9", "ecx=40000000 f=CO", "ecx=20000000 f=P");
        S.row("D1 F9", "ecx=80000001 f=O", "ecx=C0000000 f=CPS");
        S.row("C1 C1 02", "ecx=60000000 f=", "ecx=80000001 f=C");
        S.row("C0 D1 09", "ecx=25 f=C", "f=CO");
    }

    private static void movesLeaveFlags() {
        C.says(DO, "mov, movzx (0 above), movsx (its sign above), lea (the address), xchg (both change)");
        S.row("8B C1", "ecx=0 f=CSO", "eax=0");
        S.row("0F B6 C1", "ecx=1FF f=CPZO", "eax=FF");
        S.row("0F BE C1", "ecx=1FF f=CPZO", "eax=FFFFFFFF");
        S.row("8D 41 FF", "ecx=0 f=CPZO", "eax=FFFFFFFF");
        S.row("91", "eax=1 ecx=0 f=CSO", "eax=0 ecx=1");
    }

    private static void valid(String hex, int ofIt) {
        BundleFence x = Fences.of(Fences.filled(hex, 64));
        int behind = 64 - Fences.bytes(hex).length;
        C.due("look() at " + hex, x.look(), ofIt + behind);
        C.due("fault() of " + hex, x.fault(), 0);
    }

    private static void faulty(String hex, int fault, int place) {
        BundleFence x = Fences.of(Fences.filled(hex, 64));
        C.due("look() at " + hex, x.look(), -1);
        C.due("fault() of " + hex, x.fault(), fault);
        C.due("place() of " + hex, x.place(), place);
    }

    private static void stackUnits() {
        C.says(LOOK, "A STACK UNIT: an instruction that writes esp (or sp) otherwise than push, pop of another register or to memory, "
            + "call do, and writes no memory (reading it is right), and directly behind it the FENCES of esp");
        for (String write : new String[] {"89 C4", "66 89 C4", "03 23", "5C", "8F C4", "94", "44", "8D 61 10", "BC 00 00 02 00",
            "0F CC", "0F B1 C4", "0F C1 E0"}) {
            valid(write + " " + FENCES_ESP, 3);
            faulty(write, 6, 0);
            faulty(write + " 90 " + FENCES_ESP, 6, 0);
        }
        for (String write : new String[] {"87 63 00", "87 64 24 00", "0F C1 64 24 00"}) {
            faulty(write + " " + FENCES_ESP, 6, 0);
        }
        for (String other : new String[] {"54", "58", "8F 04 24", "B4 01", "8B C4"}) {
            valid(other, 1);
        }
    }

    private static void anyOtherInstruction() {
        C.says(LOOK, "Any other instruction alone that is neither a call or jmp of a register, nor one that writes esp (likewise), nor one "
            + "that writes E in memory, but for these: with the base esp, without index, a displacement -2048 .. 2047; without base and "
            + "index, all that it writes in DATA.");
        for (String alone : new String[] {"90", "03 03", "3B 03", "39 03", "84 03", "FF 33", "0F 1F 03", "8D 03", "0F BC 03", "F7 23",
            "99", "F9", "89 04 24", "89 84 24 00 F8 FF FF", "89 84 24 FF 07 00 00", "89 05 00 00 01 00", "89 05 FC FF 01 00"}) {
            valid(alone, 1);
        }
        faulty("FF E3", 4, 0);
        faulty("FF D3", 4, 0);
        faulty("44", 6, 0);
        for (String write : new String[] {"89 03", "01 03", "8F 03", "0F 90 03", "87 03", "0F C1 03", "0F B1 03", "F7 13", "F7 1B",
            "D1 23", "FF 03", "FF 0B", "89 04 04", "89 84 24 FF F7 FF FF", "89 84 24 00 08 00 00", "89 05 FD FF 01 00",
            "89 05 FF FF 00 00", "89 04 1D 00 00 01 00"}) {
            faulty(write, 5, 0);
        }
        valid(FENCES_EBX + "89 03", 3);
    }

    private static void theSizesPlace() {
        C.says(LOOK, "1 the size (place 0).");
        for (int n : new int[] {1, 31, 33, 2047}) {
            BundleFence x = Fences.of(Fences.nops(n));
            C.due("look() at " + n, x.look(), -1);
            C.due("fault()", x.fault(), 1);
            C.due("place()", x.place(), 0);
        }
    }

    private static void theFaultsPlace() {
        C.says(LOOK, "(2 to 6: the place of the instruction that has it;");
        String[] bad = {"06", "FF E3", "89 03", "44"};
        int[] faults = {2, 4, 5, 6};
        for (int i = 0; i < bad.length; i++) {
            for (int place : new int[] {0, 7, 33}) {
                faulty(Fences.nops(place) + bad[i], faults[i], place);
            }
        }
        faulty(Fences.nops(29) + "B8 90 90 90 90", 3, 29);
        // the one that has it, not the unit that it would have been a part of
        faulty("83 E3 E0 90 FF E3", 4, 4);
        faulty(FENCES_EBX + "90 89 03", 5, 13);
    }

    private static void numbersAreDecimal() {
        C.says("5 TEXTS", "Numbers are decimal.");
        C.due("I", Fences.textOf(Fences.of("B8 10 00 00 00"), 0), "mov eax,16");
        C.due("a displacement", Fences.textOf(Fences.of("8B 40 7F"), 0), "mov eax,d[eax+127]");
        C.due("where a jump goes", Fences.textOf(Fences.of("EB 0E"), 0), "jmp 4112");
    }

    private static void stepsAreInstructionsOrServices() {
        C.says("6 RUNNING", "A STEP is an instruction, or a service.");
        // call SEED at the BUNDLE's end, then hlt
        BundleFence x = Fences.of(Fences.nops(27) + "E8 " + Fences.le(Fences.gate(5) - 0x1020) + " " + Fences.filled("F4", 32));
        x.begin(true);
        C.due("run(28)", x.run(28), 28);
        C.due("EIP", x.told(1), Fences.gate(5));
        C.due("steps() before the service", x.steps(), 28);
        C.due("run(1)", x.run(1), 1);
        C.due("EIP", x.told(1), 0x1020);
        C.due("steps() behind it", x.steps(), 29);
        C.due("run(9)", x.run(9), 1);
        C.due("steps() behind hlt", x.steps(), 30);
        C.due("STATE", x.told(0), 3);
    }

    private static void lookLooksThrough() {
        C.says("Promise 4", "The image is looked through.");
        BundleFence x = Fences.bundle("");
        C.due("unit(0) before", x.unit(0), -1);
        C.refused("begin(false) before", IllegalStateException.class, () -> x.begin(false));
        C.due("look()", x.look(), 32);
        C.due("unit(0) behind", x.unit(0), 1);
        C.due("begin(false) behind", Check.thrownBy(() -> x.begin(false)), "nothing");
    }

    private static void stopAnswersWhatWas() {
        C.says("Promise 16", "Answers whether there was one.");
        BundleFence x = new BundleFence();
        for (int place : new int[] {0, 1, 2047}) {
            C.due("the first", x.stop(place, true), false);
            C.due("once more", x.stop(place, true), true);
            C.due("none any more", x.stop(place, false), true);
            C.due("none, once more", x.stop(place, false), false);
        }
    }
}
