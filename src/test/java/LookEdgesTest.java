/** Section 4 and promises 4 to 7: the edges of what is VALID, of faults and of units. */
public final class LookEdgesTest {
    private static final Check C = new Check("LookEdgesTest");
    private static final String FENCES_EBX = "81 E3 FF FF 00 00 81 CB 00 00 01 00 ";
    private static final String FENCES_ESP = "81 E4 FF FF 00 00 81 CC 00 00 01 00 ";
    private static final String HEAD = "4 LOOKING THROUGH";

    public static void main(String[] args) {
        sizeIsAMultipleOf32();
        sizeComesBeforeAllElse();
        unitsStayInTheirBundle();
        jumpUnitHasMinus32();
        jumpUnitHasOneRegister();
        jumpUnitIsDirectlyBehind();
        jumpUnitInItsBundle();
        unitsAtTheEndOfAFullImage();
        fencesHaveTheirNumbers();
        fencesHaveOneRegister();
        writeUnitIsDirectlyBehind();
        writeUnitDisplacement();
        writeUnitHasNoIndex();
        writeUnitWritesNoEsp();
        writeUnitInItsBundle();
        stackUnitHasItsFences();
        stackUnitWritesNoMemory();
        stackUnitInItsBundle();
        stackUnitIsOfItsSort();
        aloneWithBaseEsp();
        aloneAllInData();
        aloneReadsOnly();
        popWritesE();
        jumpsGoToUnits();
        jumpsGoToGates();
        jumpsWithS8();
        lastUnitEnds();
        longerUnitIsTaken();
        fault2();
        fault3();
        fault6IsNever5();
        firstFaultCounts();
        firstOfFaults7();
        C.end();
    }

    private static void valid(String hex, int size, int instructions) {
        validWhole(Fences.filled(hex, size), instructions);
    }

    private static void validWhole(String hex, int instructions) {
        BundleFence x = Fences.of(hex);
        C.due("look() at " + hex, x.look(), instructions);
        C.due("fault() of " + hex, x.fault(), 0);
        C.due("place() of " + hex, x.place(), -1);
        C.due("unit(0) of " + hex, x.unit(0), 1);
        C.due("begin(false) of " + hex, Check.thrownBy(() -> x.begin(false)), "nothing");
    }

    private static void faulty(String hex, int size, int fault, int place) {
        faultyWhole(Fences.filled(hex, size), fault, place);
    }

    private static void faultyWhole(String hex, int fault, int place) {
        BundleFence x = Fences.of(hex);
        C.due("look() at " + hex, x.look(), -1);
        C.due("fault() of " + hex, x.fault(), fault);
        C.due("place() of " + hex, x.place(), place);
        C.due("unit(0) of " + hex, x.unit(0), -1);
        C.refused("begin(false) of " + hex, IllegalStateException.class, () -> x.begin(false));
    }

    /** How many instructions the bytes have that Fences.filled puts behind. */
    private static int behind(String hex, int size) {
        return size - Fences.bytes(hex).length;
    }

    private static void sizeIsAMultipleOf32() {
        C.says(HEAD, "VALID is an image whose size is a multiple of 32, and not 0");
        faultyWhole("", 1, 0);
        for (int n : new int[] {32, 64, 96, 2016, 2048}) {
            valid("", n, n);
            faulty("", n - 1, 1, 0);
            if (n < 2048) {
                faulty("", n + 1, 1, 0);
            }
        }
        for (int n : new int[] {1, 2, 8, 16, 24, 30, 48, 2047}) {
            faulty("", n, 1, 0);
        }
    }

    private static void sizeComesBeforeAllElse() {
        C.says(HEAD, "FAULTS, of which the first from place 0 on counts");
        faulty("0F 05", 31, 1, 0);
        faulty("FF E0", 33, 1, 0);
        faultyWhole("90", 1, 0);
        BundleFence x = Fences.of(Fences.filled("90 90 0F 05", 33));
        x.look();
        C.due("place() of the size", x.place(), 0);
    }

    private static void unitsStayInTheirBundle() {
        C.says(HEAD, "made of UNITS, one behind the other from place 0 on, none of which goes beyond its BUNDLE");
        String mov = "B8 01 02 03 04 ";
        valid(Fences.nops(27) + mov, 64, 27 + 1 + 32);
        for (int before = 28; before < 32; before++) {
            faulty(Fences.nops(before) + mov, 64, 3, before);
        }
        // the second BUNDLE begins at 32, not behind the last instruction
        valid(Fences.nops(59) + mov, 96, 59 + 1 + 32);
        faulty(Fences.nops(60) + mov, 96, 3, 60);
        faulty(Fences.nops(63) + mov, 96, 3, 63);
        valid(Fences.nops(32) + mov, 64, 32 + 1 + 27);
        // the longest instruction
        String longest = "C7 84 24 00 01 00 00 00 00 00 80 ";
        valid(Fences.nops(21) + longest, 64, 21 + 1 + 32);
        faulty(Fences.nops(22) + longest, 64, 3, 22);
    }

    private static void jumpUnitHasMinus32() {
        C.says(HEAD, "A JUMP UNIT: and r,S8 (0x83) with S8 -32, and directly behind it call or jmp (0xFF digits 2, 4)");
        for (int s = 0; s < 256; s++) {
            String jump = String.format("83 E0 %02X FF E0", s);
            if (s == 0xE0) {
                valid(jump, 32, 29);
            } else {
                faulty(jump, 32, 4, 3);
            }
        }
        valid("83 E0 E0 FF D0", 32, 29);
        for (int n = 0; n < 8; n++) {
            if (n != 4) {
                faulty(String.format("83 %02X E0 FF E0", 0xC0 + 8 * n), 32, 4, 3);
            }
        }
        faulty("81 E0 E0 FF FF FF FF E0", 32, 4, 6);
        faulty("25 E0 FF FF FF FF E0", 32, 4, 5);
        faulty("80 E0 E0 FF E0", 32, 4, 3);
        // an and of memory, even without its base
        faulty("83 20 E0 FF E0", 32, 5, 0);
        faulty("83 24 24 E0 FF E4", 32, 4, 4);
        faulty("83 25 00 00 01 00 E0 FF E5", 32, 4, 7);
    }

    private static void jumpUnitHasOneRegister() {
        C.says(HEAD, "of the same register r, which is not esp.");
        for (int r = 0; r < 8; r++) {
            for (int s = 0; s < 8; s++) {
                String jump = String.format("83 %02X E0 FF %02X", 0xE0 + r, 0xE0 + s);
                String call = String.format("83 %02X E0 FF %02X", 0xE0 + r, 0xD0 + s);
                if (r == 4) {
                    faulty(jump, 32, 6, 0);
                    faulty(call, 32, 6, 0);
                } else if (r == s) {
                    valid(jump, 32, 29);
                    valid(call, 32, 29);
                } else {
                    faulty(jump, 32, 4, 3);
                    faulty(call, 32, 4, 3);
                }
            }
        }
        // not even with FENCES behind the and of esp
        faulty("83 E4 E0 " + FENCES_ESP + "FF E4", 32, 4, 15);
    }

    private static void jumpUnitIsDirectlyBehind() {
        C.says(HEAD, "4 a call or jmp of a register without its and.");
        faulty("FF E0", 32, 4, 0);
        faulty("FF D7", 32, 4, 0);
        faulty("83 E0 E0 90 FF E0", 32, 4, 4);
        faulty("83 E0 E0 83 E0 E1 FF E0", 32, 4, 6);
        // two ands: the second one is the unit's
        valid("83 E0 E0 83 E0 E0 FF E0", 32, 1 + 2 + 24);
        // two jumps: the second one has none
        faulty("83 E0 E0 FF E0 FF E0", 32, 4, 5);
    }

    /** Units whose rest would lie behind a full image. */
    private static void unitsAtTheEndOfAFullImage() {
        C.says(HEAD, "8 the last UNIT goes on (its place).");
        faultyWhole(Fences.nops(2045) + "83 E0 E0", 8, 2045);
        faultyWhole(Fences.nops(2042) + "81 E3 FF FF 00 00", 8, 2042);
        faultyWhole(Fences.nops(2036) + FENCES_EBX, 8, 2042);
        faultyWhole(Fences.nops(2034) + "89 C4 " + FENCES_ESP, 8, 2034);
        C.says(HEAD, "6 a write to esp without its FENCES behind it");
        faultyWhole(Fences.nops(2046) + "89 C4", 6, 2046);
        faultyWhole(Fences.nops(2042) + "81 E4 FF FF 00 00", 6, 2042);
        faultyWhole(Fences.nops(2040) + "89 C4 81 E4 FF FF 00 00", 6, 2040);
        faultyWhole(Fences.nops(2036) + FENCES_ESP, 6, 2036);
    }

    private static void jumpUnitInItsBundle() {
        C.says(HEAD, "a JUMP or WRITE UNIT that goes beyond the BUNDLE is none: 4 or 5 at its last instruction, or 3, if "
            + "that goes beyond it itself.");
        valid(Fences.nops(27) + "83 E0 E0 FF E0", 64, 27 + 2 + 32);
        faulty(Fences.nops(28) + "83 E0 E0 FF E0", 64, 3, 31);
        faulty(Fences.nops(29) + "83 E0 E0 FF E0", 64, 4, 32);
        faulty(Fences.nops(30) + "83 E0 E0 FF E0", 64, 3, 30);
        valid(Fences.nops(32) + "83 E0 E0 FF E0", 64, 32 + 2 + 27);
    }

    private static void fencesHaveTheirNumbers() {
        C.says(HEAD, "A WRITE UNIT: FENCES of r, that is and r,I (0x81) with I 0xFFFF and directly behind it or r,I (0x81) "
            + "with I 0x10000");
        valid(FENCES_EBX + "88 03", 32, 3 + 18);
        int[] masks = {0xFFFE, 0xFFFD, 0x7FFF, 0x10000, 0x1FFFF, -1, 0, 0xFF, 0xFFFF0000};
        for (int i : masks) {
            faulty("81 E3 " + Fences.le(i) + " 81 CB 00 00 01 00 88 03", 32, 5, 12);
        }
        int[] bases = {0, 0x10001, 0xFFFF, 0x20000, 0x30000, -1, 0x11000, 0x1000000};
        for (int i : bases) {
            faulty("81 E3 FF FF 00 00 81 CB " + Fences.le(i) + " 88 03", 32, 5, 12);
        }
        // with eax there is a shorter and and a shorter or: these are no FENCES
        valid("81 E0 FF FF 00 00 81 C8 00 00 01 00 88 00", 32, 3 + 18);
        faulty("25 FF FF 00 00 81 C8 00 00 01 00 88 00", 32, 5, 11);
        faulty("81 E0 FF FF 00 00 0D 00 00 01 00 88 00", 32, 5, 11);
        // another of the eight
        for (int n = 0; n < 8; n++) {
            if (n != 4) {
                faulty(String.format("81 %02X FF FF 00 00 81 CB 00 00 01 00 88 03", 0xC3 + 8 * n), 32, 5, 12);
            }
            if (n != 1) {
                faulty(String.format("81 E3 FF FF 00 00 81 %02X 00 00 01 00 88 03", 0xC3 + 8 * n), 32, 5, 12);
            }
        }
        // FENCES of memory are none
        faulty("81 24 24 FF FF 00 00 81 CB 00 00 01 00 88 03", 32, 5, 13);
        faulty("81 E3 FF FF 00 00 81 0C 24 00 00 01 00 88 03", 32, 5, 13);
        faulty("81 CB 00 00 01 00 81 E3 FF FF 00 00 88 03", 32, 5, 12);
    }

    private static void fencesHaveOneRegister() {
        C.says(HEAD, "r not esp, and directly behind these an instruction that writes E in memory with the base r (by BASE "
            + "or RM)");
        for (int r = 0; r < 8; r++) {
            for (int s = 0; s < 8; s++) {
                String byRm = s == 4 ? "88 44 24 00" : String.format("88 %02X 00", 0x40 + s);
                String byBase = String.format("88 44 %02X 00", 0x20 + s);
                String fences = String.format("81 %02X FF FF 00 00 81 %02X 00 00 01 00 ", 0xE0 + r, 0xC8 + r);
                if (r == 4) {
                    faulty(fences + byRm, 32, 6, 0);
                } else if (s == 4) {
                    valid(fences + byRm, 32, 3 + 16);
                } else if (r == s) {
                    valid(fences + byRm, 32, 3 + 17);
                    valid(fences + byBase, 32, 3 + 16);
                } else {
                    faulty(fences + byRm, 32, 5, 12);
                    faulty(fences + byBase, 32, 5, 12);
                }
            }
        }
        // an and of one register and an or of another are no FENCES, of either
        faulty("81 E3 FF FF 00 00 81 C9 00 00 01 00 88 01", 32, 5, 12);
        faulty("81 E3 FF FF 00 00 81 C9 00 00 01 00 88 03", 32, 5, 12);
        faulty("81 E3 FF FF 00 00 81 CC 00 00 01 00 88 03", 32, 6, 6);
    }

    private static void writeUnitIsDirectlyBehind() {
        C.says(HEAD, "5 a write without its FENCES.");
        faulty("88 03", 32, 5, 0);
        faulty(FENCES_EBX + "90 88 03", 32, 5, 13);
        faulty("81 E3 FF FF 00 00 90 81 CB 00 00 01 00 88 03", 32, 5, 13);
        faulty("81 E3 FF FF 00 00 88 03", 32, 5, 6);
        faulty("81 CB 00 00 01 00 88 03", 32, 5, 6);
        // one write alone has the FENCES
        faulty(FENCES_EBX + "88 03 88 03", 32, 5, 14);
        BundleFence x = Fences.of(Fences.filled(FENCES_EBX + "88 03", 32));
        x.look();
        C.due("unit(0)", x.unit(0), 1);
        C.due("unit(6)", x.unit(6), 2);
        C.due("unit(12)", x.unit(12), 2);
        C.due("unit(14)", x.unit(14), 1);
    }

    private static void writeUnitDisplacement() {
        C.says(HEAD, "without index, with a displacement -2048 .. 2047");
        for (int d : new int[] {-2048, -2047, -129, -128, -1, 0, 1, 127, 128, 2046, 2047}) {
            valid(FENCES_EBX + "88 83 " + Fences.le(d), 32, 3 + 14);
            valid(FENCES_EBX + "88 84 23 " + Fences.le(d), 32, 3 + 13);
        }
        for (int d : new int[] {-2049, 2048, 4096, -4096, 0x10000, Integer.MIN_VALUE, Integer.MAX_VALUE, 0x807FF}) {
            faulty(FENCES_EBX + "88 83 " + Fences.le(d), 32, 5, 12);
            faulty(FENCES_EBX + "88 84 23 " + Fences.le(d), 32, 5, 12);
        }
        valid(FENCES_EBX + "88 43 80", 32, 3 + 17);
        valid(FENCES_EBX + "88 43 7F", 32, 3 + 17);
    }

    private static void writeUnitHasNoIndex() {
        C.says(HEAD, "with the base r (by BASE or RM), without index");
        for (int index = 0; index < 8; index++) {
            for (int scale = 0; scale < 4; scale++) {
                String write = String.format("88 04 %02X", scale << 6 | index << 3 | 3);
                if (index == 4) {
                    valid(FENCES_EBX + write, 32, 3 + 17);
                } else {
                    faulty(FENCES_EBX + write, 32, 5, 12);
                }
            }
        }
        // r as the index alone, without a base
        faulty(FENCES_EBX + "88 04 1D 00 00 00 00", 32, 5, 12);
        faulty(FENCES_EBX + "88 04 1D 00 00 01 00", 32, 5, 12);
    }

    private static void writeUnitWritesNoEsp() {
        C.says(HEAD, "with a displacement -2048 .. 2047, and not esp.");
        faulty(FENCES_EBX + "87 23", 32, 6, 12);
        faulty(FENCES_EBX + "0F C1 23", 32, 6, 12);
        valid(FENCES_EBX + "86 23", 32, 3 + 18);
        valid(FENCES_EBX + "89 23", 32, 3 + 18);
        valid(FENCES_EBX + "01 23", 32, 3 + 18);
        valid(FENCES_EBX + "0F B1 23", 32, 3 + 17);
        valid(FENCES_EBX + "87 2B", 32, 3 + 18);
        // what reads E and writes esp needs the FENCES of esp
        faulty(FENCES_EBX + "8B 23", 32, 6, 12);
        valid(FENCES_EBX + "8B 23 " + FENCES_ESP, 64, 2 + 3 + 38);
    }

    private static void writeUnitInItsBundle() {
        C.says(HEAD, "a JUMP or WRITE UNIT that goes beyond the BUNDLE is none: 4 or 5 at its last instruction");
        String unit = FENCES_EBX + "88 43 00 ";
        valid(Fences.nops(17) + unit, 64, 17 + 3 + 32);
        faulty(Fences.nops(18) + unit, 64, 3, 30);
        faulty(Fences.nops(19) + unit, 64, 3, 31);
        faulty(Fences.nops(20) + unit, 64, 5, 32);
        faulty(Fences.nops(21) + unit, 64, 3, 27);
        faulty(Fences.nops(25) + unit, 64, 3, 31);
        faulty(Fences.nops(26) + unit, 64, 5, 38);
        faulty(Fences.nops(27) + unit, 64, 3, 27);
        faulty(Fences.nops(31) + unit, 64, 3, 31);
        valid(Fences.nops(32) + unit, 64, 32 + 3 + 17);
        // FENCES alone may end or part at a BUNDLE's end
        valid(Fences.nops(20) + FENCES_EBX, 64, 20 + 2 + 32);
        valid(Fences.nops(26) + FENCES_EBX, 64, 26 + 2 + 26);
    }

    private static void stackUnitHasItsFences() {
        C.says(HEAD, "and directly behind it the FENCES of esp (which are no instructions of that sort themselves there).");
        valid("89 C4 " + FENCES_ESP, 32, 3 + 18);
        faulty("89 C4", 32, 6, 0);
        faulty("89 C4 90 " + FENCES_ESP, 32, 6, 0);
        faulty("89 C4 81 E4 FF FF 00 00", 32, 6, 0);
        faulty("89 C4 81 E4 FF FF 00 00 90 81 CC 00 00 01 00", 32, 6, 0);
        faulty("89 C4 81 CC 00 00 01 00", 32, 6, 0);
        // what is no instruction is none of the FENCES, whatever its bytes would tell of esp
        faulty("89 C4 FE D4 90 90 90 90 FE D4", 32, 6, 0);
        faulty("89 C4 81 E4 FF FF 00 00 FE D4", 32, 6, 0);
        faulty("89 C4 " + FENCES_EBX, 32, 6, 0);
        faulty("89 C4 81 E4 FF FF 00 00 81 CB 00 00 01 00", 32, 6, 0);
        faulty("89 C4 81 E3 FF FF 00 00 81 CC 00 00 01 00", 32, 6, 0);
        for (int i : new int[] {0xFFFE, 0x1FFFF, 0x7FFF, -1}) {
            faulty("89 C4 81 E4 " + Fences.le(i) + " 81 CC 00 00 01 00", 32, 6, 0);
        }
        for (int i : new int[] {0, 0x10001, 0x20000, -1}) {
            faulty("89 C4 81 E4 FF FF 00 00 81 CC " + Fences.le(i), 32, 6, 0);
        }
        faulty(FENCES_ESP, 32, 6, 0);
        faulty("81 CC 00 00 01 00", 32, 6, 0);
        // the FENCES are done, and what comes behind is of that sort again
        faulty("89 C4 " + FENCES_ESP + "81 CC 00 00 01 00", 32, 6, 14);
        valid("81 E4 FF FF 00 00 " + FENCES_ESP, 32, 3 + 14);
        valid("81 CC 00 00 01 00 " + FENCES_ESP, 32, 3 + 14);
        BundleFence x = Fences.looked("89 C4 " + FENCES_ESP, 32);
        C.due("unit(0)", x.unit(0), 1);
        C.due("unit(2)", x.unit(2), 2);
        C.due("unit(8)", x.unit(8), 2);
        C.due("unit(14)", x.unit(14), 1);
    }

    private static void stackUnitWritesNoMemory() {
        C.says(HEAD, "and writes no memory (reading it is right)");
        valid("8B 23 " + FENCES_ESP, 32, 3 + 18);
        valid("03 25 00 00 00 00 " + FENCES_ESP, 32, 3 + 14);
        valid("0F 44 23 " + FENCES_ESP, 32, 3 + 17);
        valid("5C " + FENCES_ESP, 32, 3 + 19);
        valid("8F C4 " + FENCES_ESP, 32, 3 + 18);
        faulty("87 24 24 " + FENCES_ESP, 32, 6, 0);
        faulty("0F C1 24 24 " + FENCES_ESP, 32, 6, 0);
        faulty("87 25 00 00 01 00 " + FENCES_ESP, 32, 6, 0);
    }

    private static void stackUnitInItsBundle() {
        C.says(HEAD, "in a STACK UNIT whose FENCES go beyond the BUNDLE it is 6");
        valid(Fences.nops(18) + "89 C4 " + FENCES_ESP, 64, 18 + 3 + 32);
        for (int before = 19; before <= 30; before++) {
            faulty(Fences.nops(before) + "89 C4 " + FENCES_ESP, 64, 6, before);
        }
        faulty(Fences.nops(31) + "89 C4 " + FENCES_ESP, 64, 3, 31);
        valid(Fences.nops(32) + "89 C4 " + FENCES_ESP, 64, 32 + 3 + 18);
        // the last BUNDLE: the FENCES would go beyond the image
        faultyWhole(Fences.nops(19) + "89 C4 81 E4 FF FF 00 00 81 CC 00 00 01", 6, 19);
    }

    private static void stackUnitIsOfItsSort() {
        C.says(HEAD, "an instruction that writes esp (or sp) otherwise than push, pop of another register or to memory, call "
            + "do");
        String[] sort = {"44", "4C", "89 C4", "66 89 C4", "66 8B E0", "66 8B 24 24", "BC 00 00 01 00", "C1 E4 00", "D3 E4",
            "0F A4 C4 00", "5C", "8F C4", "94", "87 C4", "87 E0", "0F CC", "0F B1 C4", "0F BC E0", "0F 44 E0", "8D 24 24",
            "6B E0 00", "69 E0 00 00 00 00", "0F AF E0", "0F B6 E4", "0F B7 E4", "0F BE E4", "0F BF E4", "0F BD E0", "F7 D4",
            "F7 DC", "83 C4 00", "C1 C4 00", "C1 CC 00", "D1 D4", "D1 DC", "D1 EC", "D1 FC", "0F AC C4 00", "01 C4", "09 C4",
            "11 C4", "19 C4", "29 C4", "31 C4", "03 E0", "0B E0", "13 E0", "1B E0", "2B E0", "33 E0", "23 E0", "FF C4", "FF CC",
            "0F C1 C4", "0F C1 E0", "8B E0", "C7 C4 00 00 00 00"};
        for (String s : sort) {
            faulty(s, 32, 6, 0);
            valid(s + " " + FENCES_ESP, 32, 3 + behind(s + " " + FENCES_ESP, 32));
        }
        String[] none = {"54", "FF F4", "FF 34 24", "58", "5D", "8F C0", "8F 04 24", "E8 FB F3 FF FF", "39 C4", "3B E0",
            "85 E4", "F7 C4 00 00 00 00", "F7 E4", "F7 F4", "0F 1F C4", "B4 00", "88 C4", "86 E0", "0F 94 C4", "C0 E4 01",
            "FE C4", "F6 DC", "02 E0", "83 FC 00", "6A 04", "89 E0", "0F B1 E0",
            // esp as what is read, and the digit 4
            "01 E0", "09 E0", "11 E0", "19 E0", "21 E0", "29 E0", "31 E0", "39 E0", "03 C4", "0F A4 E0 00", "0F AC E0 00",
            "66 89 E0", "66 8B C4", "83 E0 00", "C1 E0 00", "D1 E0", "D3 E0", "F7 E0", "0F 94 E0", "0F AF C4", "6B C4 00",
            "0F B7 C4", "0F BF C4", "0F BC C4", "0F BD C4", "0F 44 C4", "8D 04 24", "0F B6 C4", "8A E0", "80 E4 00", "D0 E4"};
        for (String s : none) {
            valid(s, 32, 1 + behind(s, 32));
        }
    }

    private static void aloneWithBaseEsp() {
        C.says(HEAD, "with the base esp, without index, a displacement -2048 .. 2047");
        valid("88 04 24", 32, 30);
        valid("88 44 24 80", 32, 29);
        valid("88 44 24 7F", 32, 29);
        for (int d : new int[] {-2048, -2047, 0, 2046, 2047}) {
            valid("88 84 24 " + Fences.le(d), 32, 26);
        }
        for (int d : new int[] {-2049, 2048, 0x10000, Integer.MIN_VALUE, Integer.MAX_VALUE}) {
            faulty("88 84 24 " + Fences.le(d), 32, 5, 0);
        }
        for (int index = 0; index < 8; index++) {
            String write = String.format("88 04 %02X", index << 3 | 4);
            if (index == 4) {
                valid(write, 32, 30);
            } else {
                faulty(write, 32, 5, 0);
            }
        }
        for (int base = 0; base < 8; base++) {
            if (base != 4) {
                faulty(String.format("88 44 %02X 00", 0x20 + base), 32, 5, 0);
            }
        }
    }

    private static void aloneAllInData() {
        C.says(HEAD, "without base and index, all that it writes in DATA.");
        String[] writes = {"88 05 ", "66 89 05 ", "89 05 "};
        for (int k = 0; k < 3; k++) {
            int width = 1 << k;
            int n = 1 + behind(writes[k] + "00 00 00 00", 32);
            valid(writes[k] + Fences.le(0x10000), 32, n);
            valid(writes[k] + Fences.le(0x20000 - width), 32, n);
            faulty(writes[k] + Fences.le(0x20001 - width), 32, 5, 0);
            faulty(writes[k] + Fences.le(0xFFFF), 32, 5, 0);
            faulty(writes[k] + Fences.le(0x20000), 32, 5, 0);
            faulty(writes[k] + Fences.le(0x1000), 32, 5, 0);
            faulty(writes[k] + Fences.le(0), 32, 5, 0);
            faulty(writes[k] + Fences.le(-1), 32, 5, 0);
            faulty(writes[k] + Fences.le(0x80010000), 32, 5, 0);
        }
        valid("88 04 25 00 00 01 00", 32, 26);
        valid("88 04 E5 FF FF 01 00", 32, 26);
        faulty("88 04 05 00 00 01 00", 32, 5, 0);
        faulty("88 04 25 00 00 02 00", 32, 5, 0);
        valid("8F 05 FC FF 01 00", 32, 27);
        faulty("8F 05 FD FF 01 00", 32, 5, 0);
        valid("0F 94 05 FF FF 01 00", 32, 26);
        faulty("0F 94 05 00 00 02 00", 32, 5, 0);
        // what is only read may lie anywhere
        valid("8B 05 00 00 00 00", 32, 27);
        valid("3B 05 FF FF FF FF", 32, 27);
    }

    private static void aloneReadsOnly() {
        C.says(HEAD, "(cmp, test, nop, push, lea, bsf and others that only read E write none; pop E, set, xchg, xadd, cmpxchg, "
            + "not, neg, shifts, inc, dec, mov to it and the eight but cmp do.");
        String[] reads = {"38 00", "39 00", "80 38 00", "83 38 00", "84 00", "85 00", "F6 00 00", "F7 00 00 00 00 00",
            "0F 1F 00", "FF 30", "8D 00", "0F BC 00", "0F BD 00", "F6 20", "F7 28", "F6 30", "F7 38", "8A 00", "8B 00",
            "66 8B 00", "0F B6 00", "0F BF 00", "0F 44 00", "0F AF 00", "69 00 00 00 00 00", "6B 00 00", "03 00", "12 00"};
        for (String s : reads) {
            valid(s, 32, 1 + behind(s, 32));
        }
        String[] writes = {"C1 08 01", "D1 20", "D1 28", "0F 90 20", "8F 00", "0F 9F 00", "86 00", "87 00", "0F C1 00", "0F B1 00", "F6 10", "F7 18", "C0 00 00",
            "C1 38 20", "D0 10", "D3 18", "0F A4 00 00", "0F AC 00 00", "FE 00", "FF 08", "88 00", "89 00", "66 89 00",
            "C6 00 00", "C7 00 00 00 00 00", "00 00", "09 00", "11 00", "19 00", "21 00", "29 00", "31 00", "80 00 00",
            "83 00 00", "81 30 00 00 00 00"};
        for (String s : writes) {
            faulty(s, 32, 5, 0);
        }
    }

    private static void popWritesE() {
        C.says(HEAD, "pop E is one that writes E, with its displacement, and nothing of esp's sort.)");
        valid("8F 04 24", 32, 30);
        valid("8F 84 24 FF 07 00 00", 32, 26);
        faulty("8F 84 24 00 08 00 00", 32, 5, 0);
        valid("8F 84 24 00 F8 FF FF", 32, 26);
        faulty("8F 84 24 FF F7 FF FF", 32, 5, 0);
        valid(FENCES_EBX + "8F 83 FF 07 00 00", 32, 3 + 14);
        faulty(FENCES_EBX + "8F 83 00 08 00 00", 32, 5, 12);
        faulty("8F 03", 32, 5, 0);
    }

    /** A bundle with units of every sort, and a jmp L at place 32 that goes to an address. */
    private static String jumping(int address) {
        return "90 83 E0 E0 FF D0 " + FENCES_EBX + "88 03 " + "B8 00 00 00 00 " + Fences.nops(7) + "E9 "
            + Fences.le(address - 0x1025);
    }

    private static void jumpsGoToUnits() {
        C.says(HEAD, "Jumps and calls with S8 or L go to the beginning of a UNIT or to a GATE");
        String starts = "11000010000000000000" + "10000" + "1111111" + "10000" + "111111111111111111111111111";
        for (int place = -2; place < 70; place++) {
            boolean is = place >= 0 && place < 64 && starts.charAt(place) == '1';
            if (is) {
                valid(jumping(0x1000 + place), 64, 1 + 2 + 3 + 1 + 7 + 1 + 27);
            } else {
                faulty(jumping(0x1000 + place), 64, 7, 32);
            }
        }
        for (int address : new int[] {0, -1, 0x10000, 0x1FFFF, 0x80001000, 0x17FF, 0x1800, 0xFFF}) {
            faulty(jumping(address), 64, 7, 32);
        }
    }

    private static void jumpsGoToGates() {
        C.says("1 PLACES", "GATES 0 .. 15 have the addresses 0x400 + 32 k.");
        for (int k = 0; k < 16; k++) {
            valid(jumping(0x400 + 32 * k), 64, 42);
            faulty(jumping(0x401 + 32 * k), 64, 7, 32);
            faulty(jumping(0x410 + 32 * k), 64, 7, 32);
            faulty(jumping(0x41F + 32 * k), 64, 7, 32);
        }
        faulty(jumping(0x3E0), 64, 7, 32);
        faulty(jumping(0x3FF), 64, 7, 32);
        faulty(jumping(0x600), 64, 7, 32);
        faulty(jumping(0x80000400), 64, 7, 32);
        faulty(jumping(0x400 + 0x10000), 64, 7, 32);
        faulty(jumping(-0x400), 64, 7, 32);
        // calls and each condition with L go there, too
        valid("E8 " + Fences.le(0x5E0 - 0x1005), 32, 28);
        faulty("E8 " + Fences.le(0x600 - 0x1005), 32, 7, 0);
        for (int c = 0x80; c < 0x90; c++) {
            valid(String.format("0F %02X ", c) + Fences.le(0x400 - 0x1006), 32, 27);
            faulty(String.format("0F %02X ", c) + Fences.le(0x3E0 - 0x1006), 32, 7, 0);
        }
    }

    private static void jumpsWithS8() {
        C.says(HEAD, "7 a jump or call to no such place (the first such; the place is its own).");
        int[] codes = {0x70, 0x71, 0x72, 0x73, 0x74, 0x75, 0x76, 0x77, 0x78, 0x79, 0x7A, 0x7B, 0x7C, 0x7D, 0x7E, 0x7F, 0xE2,
            0xE3, 0xEB};
        for (int code : codes) {
            String jump = Fences.nops(3) + String.format("%02X ", code);
            valid(jump + "FB", 32, 31);
            valid(jump + "FE", 32, 31);
            valid(jump + "00", 32, 31);
            valid(jump + "1A", 32, 31);
            faulty(jump + "FA", 32, 7, 3);
            faulty(jump + "FF", 32, 7, 3);
            faulty(jump + "1B", 32, 7, 3);
            faulty(jump + "7F", 32, 7, 3);
            faulty(jump + "80", 32, 7, 3);
        }
        // over a BUNDLE's end, as far as S8 goes
        valid("EB 7F " + Fences.nops(130), 160, 159);
        valid(Fences.nops(126) + "EB 80", 160, 159);
        faulty(Fences.nops(124) + "EB 80", 160, 7, 124);
    }

    private static void lastUnitEnds() {
        C.says(HEAD, "and the last UNIT ends with hlt, or is jmp, or a JUMP UNIT with jmp.");
        validWhole(Fences.nops(31) + "F4", 32);
        validWhole(Fences.nops(30) + "EB FE", 31);
        validWhole(Fences.nops(27) + "E9 E0 FF FF FF", 28);
        validWhole(Fences.nops(27) + "83 E0 E0 FF E0", 29);
        C.says(HEAD, "8 the last UNIT goes on (its place).");
        faultyWhole(Fences.nops(32), 8, 31);
        faultyWhole("F4 " + Fences.nops(31), 8, 31);
        faultyWhole(Fences.nops(27) + "83 E0 E0 FF D0", 8, 27);
        faultyWhole(Fences.nops(27) + "E8 E0 FF FF FF", 8, 27);
        faultyWhole(Fences.nops(30) + "70 FE", 8, 30);
        faultyWhole(Fences.nops(26) + "0F 84 E0 FF FF FF", 8, 26);
        faultyWhole(Fences.nops(30) + "E2 FE", 8, 30);
        faultyWhole(Fences.nops(30) + "E3 FE", 8, 30);
        faultyWhole(Fences.nops(18) + FENCES_EBX + "88 03", 8, 18);
        faultyWhole(Fences.nops(18) + "89 C4 " + FENCES_ESP, 8, 18);
        faultyWhole(Fences.nops(29) + "83 E0 E0", 8, 29);
        faultyWhole(Fences.nops(31) + "F5", 8, 31);
        // a hlt that is part of the last instruction ends nothing
        faultyWhole(Fences.nops(27) + "B8 00 00 00 F4", 8, 27);
        // the last of 64 BUNDLES
        faultyWhole(Fences.nops(2048), 8, 2047);
        faultyWhole(Fences.nops(2043) + "83 E0 E0 FF D0", 8, 2043);
        validWhole(Fences.nops(2043) + "83 E0 E0 FF E0", 2045);
    }

    private static void longerUnitIsTaken() {
        C.says(HEAD, "A longer UNIT is taken where one can be (and r,S8 or and r,I that is not followed so is an instruction "
            + "alone).");
        BundleFence x = Fences.looked("83 E0 E0 FF D0 83 E0 E0 90 " + FENCES_EBX + "90", 32);
        String want = "10020" + "1001" + "100000" + "100000" + "1";
        for (int i = 0; i < want.length(); i++) {
            C.due("unit(" + i + ")", x.unit(i), want.charAt(i) - '0');
        }
        BundleFence y = Fences.looked("81 E3 FF FF 00 00 " + FENCES_EBX + "88 03", 32);
        String twice = "100000" + "100000" + "200000" + "20" + "1";
        for (int i = 0; i < twice.length(); i++) {
            C.due("unit(" + i + ") behind two ands", y.unit(i), twice.charAt(i) - '0');
        }
        // a jump to what would be a UNIT by itself goes into the midst of the longer one
        faulty(FENCES_EBX + "88 03 EB F6", 32, 7, 14);
        valid(FENCES_EBX + "90 90 EB F6", 32, 2 + 2 + 1 + 16);
        faulty("83 E0 E0 FF D0 EB FC", 32, 7, 5);
        valid("83 E0 E1 90 90 EB FC", 32, 1 + 2 + 1 + 25);
    }

    private static void fault2() {
        C.says(HEAD, "2 no instruction begins here, or it ends behind the image.");
        faulty("06", 32, 2, 0);
        faulty(Fences.nops(5) + "66 66 90", 32, 2, 5);
        faulty("EB 00 62", 32, 2, 2);
        // the last one ends behind the image, and so beyond its BUNDLE, too
        faultyWhole(Fences.nops(31) + "B8", 2, 31);
        faultyWhole(Fences.nops(28) + "B8 F4 F4 F4", 2, 28);
        faultyWhole(Fences.nops(31) + "0F", 2, 31);
        faultyWhole(Fences.nops(31) + "66", 2, 31);
        faultyWhole(Fences.nops(30) + "8B 04", 2, 30);
        faultyWhole(Fences.nops(2044) + "B8 F4 F4 F4", 2, 2044);
        // the same bytes with a BUNDLE behind go beyond theirs
        faulty(Fences.nops(28) + "B8 F4 F4 F4", 64, 3, 28);
        // no instruction, over a BUNDLE's end
        faulty(Fences.nops(31) + "0F 05", 64, 2, 31);
    }

    private static void fault3() {
        C.says(HEAD, "3 an instruction goes beyond its BUNDLE.");
        faulty(Fences.nops(31) + "6A 00", 64, 3, 31);
        valid(Fences.nops(30) + "6A 00", 64, 30 + 1 + 32);
        // ahead of what else it has
        faulty(Fences.nops(31) + "FF E0", 64, 3, 31);
        faulty(Fences.nops(31) + "88 00", 64, 3, 31);
        faulty(Fences.nops(31) + "89 C4", 64, 3, 31);
        faulty(Fences.nops(31) + "EB 7F", 64, 3, 31);
    }

    private static void fault6IsNever5() {
        C.says(HEAD, "6 a write to esp without its FENCES behind it, or by an instruction that writes memory, too (that is 6, "
            + "never 5).");
        faulty("87 20", 32, 6, 0);
        faulty("0F C1 20", 32, 6, 0);
        faulty("87 20 " + FENCES_ESP, 32, 6, 0);
        faulty("0F C1 24 00 " + FENCES_ESP, 32, 6, 0);
        faulty("87 24 24", 32, 6, 0);
        faulty("87 25 00 00 01 00", 32, 6, 0);
        faulty(FENCES_EBX + "87 23 " + FENCES_ESP, 64, 6, 12);
    }

    private static void firstFaultCounts() {
        C.says(HEAD, "FAULTS, of which the first from place 0 on counts (7 and 8 when all else is well, 7 before 8)");
        String[] faults = {"06", "FF E0", "88 00", "89 C4"};
        int[] numbers = {2, 4, 5, 6};
        for (int i = 0; i < 4; i++) {
            for (int k = 0; k < 4; k++) {
                faulty("90 " + faults[i] + " " + faults[k], 32, numbers[i], 1);
            }
            faulty("EB 7F " + faults[i], 32, numbers[i], 2);
            faultyWhole(faults[i] + " " + Fences.nops(behind(faults[i], 32)), numbers[i], 0);
        }
        faulty("EB 7F " + Fences.nops(29) + "6A 00", 64, 3, 31);
        faultyWhole("EB 7F " + Fences.nops(30), 7, 0);
        faultyWhole(Fences.nops(30) + "74 7F", 7, 30);
        faultyWhole(Fences.nops(30) + "74 FE", 8, 30);
        faultyWhole(Fences.nops(32), 8, 31);
    }

    private static void firstOfFaults7() {
        C.says(HEAD, "7 a jump or call to no such place (the first such; the place is its own)");
        faulty("90 EB 7F EB 7F", 32, 7, 1);
        faulty("90 EB 00 EB 7F", 32, 7, 3);
        faulty("90 E8 00 10 00 00 EB 7F", 32, 7, 1);
        // not what comes first by where it goes
        faulty(Fences.nops(8) + "EB 7F EB F5", 32, 7, 8);
    }
}
