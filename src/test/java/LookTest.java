/** Promises 4 to 7: images are looked through. */
public final class LookTest {
    private static final Check C = new Check("LookTest");
    private static final String FENCES_EBX = "81 E3 FF FF 00 00 81 CB 00 00 01 00 ";
    private static final String FENCES_ESP = "81 E4 FF FF 00 00 81 CC 00 00 01 00 ";

    public static void main(String[] args) {
        sizes();
        noInstruction();
        bundleEnds();
        jumpUnits();
        writeUnits();
        writesAlone();
        stackUnits();
        whatWritesTheStackPointer();
        whatWritesMemory();
        targets();
        lastUnits();
        orderOfFaults();
        units();
        whatIsForgotten();
        C.end();
    }

    /** The image is VALID with so many instructions. */
    private static void valid(String hex, int instructions) {
        BundleFence x = Fences.bundle(hex);
        C.due("look() at " + hex, x.look(), instructions);
        C.due("fault() of " + hex, x.fault(), 0);
        C.due("place() of " + hex, x.place(), -1);
    }

    /** The image has this fault; the rest of it is nops and a hlt. */
    private static void faulty(String hex, int fault, int place) {
        faultyWhole(Fences.filled(hex, (Fences.bytes(hex).length + 32) / 32 * 32), fault, place);
    }

    private static void faultyWhole(String hex, int fault, int place) {
        BundleFence x = Fences.of(hex);
        C.due("look() at " + hex, x.look(), -1);
        C.due("fault() of " + hex, x.fault(), fault);
        C.due("place() of " + hex, x.place(), place);
        C.due("unit(0) of " + hex, x.unit(0), -1);
    }

    private static void sizes() {
        faultyWhole("", 1, 0);
        faultyWhole(Fences.filled("", 31), 1, 0);
        faultyWhole(Fences.filled("", 33), 1, 0);
        faultyWhole("0F 05", 1, 0);
        valid("", 32);
        valid("90 ".repeat(32), 64);
        BundleFence full = Fences.of(Fences.filled("", 2048));
        C.due("look() at a full image", full.look(), 2048);
        faultyWhole(Fences.filled("", 2047), 1, 0);
    }

    private static void noInstruction() {
        faulty("0F 05", 2, 0);
        faulty("90 90 62", 2, 2);
        // a hlt that is eaten by an instruction that ends behind the image
        faultyWhole("90 ".repeat(31) + "B8", 2, 31);
        faultyWhole("90 ".repeat(28) + "B8 F4 F4 F4", 2, 28);
        faulty("81 E3 FF FF 00 00 0F 05", 2, 6);
    }

    private static void bundleEnds() {
        String nops27 = "90 ".repeat(27);
        valid(nops27 + "B8 01 02 03 04", 60);
        faulty(nops27 + "90 B8 01 02 03 04", 3, 28);
        faulty("90 ".repeat(31) + "6A 00", 3, 31);
        // the and of a JUMP UNIT ends a bundle: both are alone
        faulty("90 ".repeat(29) + "83 E0 E0 FF E0", 4, 32);
        faulty("90 ".repeat(28) + "83 E0 E0 FF E0", 3, 31);
        faulty("90 ".repeat(30) + "83 E0 E0 FF E0", 3, 30);
        valid("90 ".repeat(27) + "83 E0 E0 FF D0", 61);
        // FENCES of 12 and a write of 6: up to place 32
        valid("90 ".repeat(14) + FENCES_EBX + "89 83 00 01 00 00", 49);
        faulty("90 ".repeat(15) + FENCES_EBX + "89 83 00 01 00 00", 3, 27);
        faulty("90 ".repeat(20) + FENCES_EBX + "89 03", 5, 32);
        faulty("90 ".repeat(14) + FENCES_EBX + "90 89 83 00 01 00 00", 3, 27);
        faulty("90 ".repeat(21) + FENCES_EBX + "89 03", 3, 27);
        valid("90 ".repeat(20) + FENCES_EBX, 54);
        // STACK UNITS
        valid("90 ".repeat(18) + "89 C4 " + FENCES_ESP, 53);
        faulty("90 ".repeat(19) + "89 C4 " + FENCES_ESP, 6, 19);
        faulty("90 ".repeat(30) + "89 C4 " + FENCES_ESP, 6, 30);
        faulty("90 ".repeat(31) + "89 C4 " + FENCES_ESP, 3, 31);
    }

    private static void jumpUnits() {
        for (int r = 0; r < 8; r++) {
            String jump = String.format("83 %02X E0 FF %02X", 0xE0 + r, 0xE0 + r);
            String call = String.format("83 %02X E0 FF %02X", 0xE0 + r, 0xD0 + r);
            if (r == 4) {
                faulty(jump, 6, 0);
                faulty(call, 6, 0);
            } else {
                valid(jump, 29);
                valid(call, 29);
            }
            faulty(String.format("FF %02X", 0xD0 + r), 4, 0);
            faulty(String.format("FF %02X", 0xE0 + r), 4, 0);
        }
        faulty("83 E0 E0 FF E1", 4, 3);
        faulty("83 E0 F0 FF E0", 4, 3);
        faulty("83 C8 E0 FF E0", 4, 3);
        faulty("81 E0 E0 FF FF FF FF E0", 4, 6);
        faulty("83 E0 E0 90 FF E0", 4, 4);
        valid("83 E0 E0", 30);
    }

    private static void writeUnits() {
        valid(FENCES_EBX + "89 03", 21);
        valid(FENCES_EBX + "89 43 7F", 20);
        valid(FENCES_EBX + "89 83 FF 07 00 00", 17);
        faulty(FENCES_EBX + "89 83 00 08 00 00", 5, 12);
        valid(FENCES_EBX + "89 83 00 F8 FF FF", 17);
        faulty(FENCES_EBX + "89 83 FF F7 FF FF", 5, 12);
        // the base by BASE, and an index
        valid(FENCES_EBX + "89 04 23", 20);
        faulty(FENCES_EBX + "89 04 03", 5, 12);
        faulty(FENCES_EBX + "89 02", 5, 12);
        // other FENCES
        faulty("81 E3 FE FF 00 00 81 CB 00 00 01 00 89 03", 5, 12);
        faulty("81 E3 FF FF 00 00 81 CB 00 00 02 00 89 03", 5, 12);
        faulty("81 CB 00 00 01 00 81 E3 FF FF 00 00 89 03", 5, 12);
        faulty("81 E3 FF FF 00 00 81 C9 00 00 01 00 89 03", 5, 12);
        faulty("81 E3 FF FF 00 00 90 81 CB 00 00 01 00 89 03", 5, 13);
        faulty(FENCES_EBX + "90 89 03", 5, 13);
        faulty("25 FF FF 00 00 0D 00 00 01 00 89 00", 5, 10);
        // FENCES alone, and before what only reads
        valid(FENCES_EBX, 22);
        valid(FENCES_EBX + "8B 03", 21);
        valid("81 E3 FF FF 00 00", 27);
        // the FENCES behind other FENCES
        valid("81 E3 FF FF 00 00 " + FENCES_EBX, 17);
        valid(FENCES_EBX.substring(0, 18) + FENCES_EBX.substring(0, 18) + FENCES_EBX.substring(18), 17);
        faulty(FENCES_EBX.substring(0, 18) + FENCES_EBX.substring(0, 18) + FENCES_EBX.substring(18)
                + "90 89 03", 5, 19);
        // a write of esp and memory
        faulty(FENCES_EBX + "87 23", 6, 12);
        faulty(FENCES_EBX + "0F C1 23", 6, 12);
        valid(FENCES_EBX + "0F B1 23", 20);
        valid(FENCES_EBX + "89 23", 21);
        valid(FENCES_EBX + "8F 43 04", 20);
        valid(FENCES_EBX + "8F 03", 21);
    }

    private static void writesAlone() {
        valid("89 04 24", 30);
        valid("89 44 24 80", 29);
        valid("89 84 24 FF 07 00 00", 26);
        faulty("89 84 24 00 08 00 00", 5, 0);
        valid("89 84 24 00 F8 FF FF", 26);
        faulty("89 84 24 FF F7 FF FF", 5, 0);
        faulty("89 04 04", 5, 0);
        faulty("89 00", 5, 0);
        faulty("89 45 00", 5, 0);
        // fixed addresses, all in DATA
        valid("89 05 00 00 01 00", 27);
        valid("89 05 FC FF 01 00", 27);
        faulty("89 05 FD FF 01 00", 5, 0);
        faulty("89 05 FF FF 00 00", 5, 0);
        valid("88 05 FF FF 01 00", 27);
        faulty("88 05 00 00 02 00", 5, 0);
        valid("66 89 05 FE FF 01 00", 26);
        faulty("66 89 05 FF FF 01 00", 5, 0);
        valid("89 04 25 00 00 01 00", 26);
        faulty("89 04 05 00 00 01 00", 5, 0);
        faulty("89 05 00 10 00 00", 5, 0);
        faulty("89 05 FF FF FF FF", 5, 0);
        valid("8F 04 24", 30);
        valid("8F 05 00 00 01 00", 27);
        faulty("8F 00", 5, 0);
        faulty("0F 95 00", 5, 0);
    }

    private static void stackUnits() {
        valid("89 C4 " + FENCES_ESP, 21);
        valid("8B 23 " + FENCES_ESP, 21);
        valid("8B 24 24 " + FENCES_ESP, 20);
        valid("83 EC 10 " + FENCES_ESP, 20);
        valid("5C " + FENCES_ESP, 22);
        valid("8F C4 " + FENCES_ESP, 21);
        valid("66 89 C4 " + FENCES_ESP, 20);
        valid(FENCES_ESP.substring(0, 18) + FENCES_ESP, 17);
        valid(FENCES_ESP.substring(18) + FENCES_ESP, 17);
        faulty(FENCES_ESP, 6, 0);
        faulty("89 C4", 6, 0);
        faulty("89 C4 90 " + FENCES_ESP, 6, 0);
        faulty("89 C4 " + FENCES_EBX, 6, 0);
        faulty("89 C4 " + FENCES_ESP + FENCES_ESP.substring(0, 18), 6, 14);
        faulty("87 24 24 " + FENCES_ESP, 6, 0);
        faulty("0F C1 25 00 00 01 00 " + FENCES_ESP, 6, 0);
        faulty("87 23 " + FENCES_ESP, 6, 0);
        // the write that the FENCES of esp stand before is alone
        valid("89 C4 " + FENCES_ESP + "89 04 24", 19);
        faulty("89 C4 " + FENCES_ESP + "89 03", 5, 14);
    }

    private static void whatWritesTheStackPointer() {
        String[] writers = {"01 C4", "03 E0", "81 C4 01 00 00 00", "83 C4 04", "44", "4C", "FF C4", "FF CC",
            "69 E0 01 00 00 00", "6B E0 01", "0F AF E0", "87 C4", "87 E0", "94", "89 C4", "8B E0", "8D 20",
            "BC 00 00 00 00", "C7 C4 00 00 00 00", "C1 E4 00", "D1 E4", "D3 FC", "F7 D4", "F7 DC", "0F 44 E0",
            "0F A4 C4 01", "0F AC C4 01", "0F B1 C4", "0F B6 E0", "0F B7 E0", "0F BE E0", "0F BF E0", "0F BC E0",
            "0F BD E0", "0F C1 C4", "0F C1 E0", "0F CC", "66 89 C4", "66 8B E0", "11 C4", "19 C4", "21 C4", "29 C4",
            "31 C4", "09 C4"};
        for (String w : writers) {
            faulty(w, 6, 0);
            BundleFence x = Fences.bundle(w + " " + FENCES_ESP);
            C.due("with FENCES: " + w, x.look() > 0, true);
            C.due("unit behind " + w, x.unit(Fences.bytes(w).length), 2);
        }
        String[] others = {"39 C4", "3B E0", "83 FC 04", "85 C4", "F7 C4 01 00 00 00", "54", "FF F4", "58", "8F C0",
            "E8 FB F3 FF FF", "00 C4", "B4 01", "0F 94 C4", "C0 E4 01", "F7 E4", "F7 EC", "F7 F4", "F7 FC",
            "0F 1F C4", "8A 23", "86 C4", "FE C4", "F6 DC", "89 E0", "8B C4", "0F B1 E0",
            "01 E0", "09 E0", "11 E0", "19 E0", "21 E0", "29 E0", "31 E0", "39 E0", "85 E0", "03 C4", "0F A4 E0 01",
            "0F AC E0 01", "66 89 E0", "66 8B C4", "C1 E0 01", "F7 E0", "0F 44 C4", "0F AF C4", "69 C4 01 00 00 00",
            "0F B7 C4", "0F BF C4", "0F BC C4", "0F BD C4", "8D 04 24", "0F 94 E0", "A9 00 00 00 00", "35 04 00 00 00"};
        for (String w : others) {
            C.due("no write to esp: " + w, Fences.bundle(w).look() > 0, true);
        }
    }

    private static void whatWritesMemory() {
        String[] writers = {"00 03", "01 03", "08 03", "10 03", "18 03", "20 03", "28 03", "30 03", "80 03 01",
            "81 03 01 00 00 00", "83 03 01", "86 03", "87 03", "88 03", "89 03", "8F 03", "C0 03 01", "C1 03 00",
            "D0 03", "D1 0B", "D2 13", "D3 1B", "D1 23", "D1 2B", "D1 3B", "C6 03 01", "C7 03 01 00 00 00", "F6 13",
            "F7 13", "F6 1B", "F7 1B", "FE 03", "FE 0B", "FF 03", "FF 0B", "0F 90 03", "0F A4 03 01", "0F AC 03 01",
            "0F B1 03", "0F C1 03", "66 89 03"};
        for (String w : writers) {
            faulty(w, 5, 0);
            C.due("with FENCES: " + w, Fences.bundle(FENCES_EBX + w).look() > 0, true);
        }
        String[] readers = {"02 03", "03 03", "38 03", "39 03", "3A 03", "3B 03", "80 3B 01", "81 3B 01 00 00 00",
            "83 3B 01", "84 03", "85 03", "8A 03", "8B 03", "8D 03", "F6 03 01", "F7 03 01 00 00 00", "F6 23", "F7 23",
            "F6 2B", "F7 2B", "F6 33", "F7 3B", "FF 33", "0F 1F 03", "0F 44 03", "0F AF 03", "0F B6 03", "0F B7 03",
            "0F BC 03", "0F BD 03", "0F BE 03", "0F BF 03", "69 03 01 00 00 00", "6B 03 01", "66 8B 03"};
        for (String w : readers) {
            C.due("only reads: " + w, Fences.bundle(w).look() > 0, true);
        }
    }

    private static void targets() {
        // every jump with S8 and L, to itself and into itself
        String[] shorts = {"EB", "70", "7F", "E2", "E3"};
        for (String s : shorts) {
            valid(s + " FE", 31);
            faulty(s + " FF", 7, 0);
            valid("90 " + s + " FD", 31);
            valid(s + " 1D", 31);
            faulty(s + " 1E", 7, 0);
            faulty(s + " 80", 7, 0);
        }
        for (String s : new String[] {"E8", "E9"}) {
            valid(s + " FB FF FF FF", 28);
            faulty(s + " FC FF FF FF", 7, 0);
            valid(s + " " + Fences.le(0x400 - 0x1005), 28);
            valid(s + " " + Fences.le(0x5E0 - 0x1005), 28);
            faulty(s + " " + Fences.le(0x600 - 0x1005), 7, 0);
            faulty(s + " " + Fences.le(0x3E0 - 0x1005), 7, 0);
            faulty(s + " " + Fences.le(0x401 - 0x1005), 7, 0);
            faulty(s + " " + Fences.le(0x410 - 0x1005), 7, 0);
            faulty(s + " " + Fences.le(0x1020 - 0x1005), 7, 0);
            faulty(s + " " + Fences.le(0x10000 - 0x1005), 7, 0);
            faulty(s + " " + Fences.le(0x80001000 - 0x1005), 7, 0);
        }
        valid("0F 84 FA FF FF FF", 27);
        faulty("0F 84 FB FF FF FF", 7, 0);
        // into the midst of units
        faulty("83 E0 E0 FF D0 EB FC", 7, 5);
        valid("83 E0 E0 FF D0 EB F9", 28);
        faulty(FENCES_EBX + "89 03 EB F6", 7, 14);
        faulty(FENCES_EBX + "89 03 EB FC", 7, 14);
        valid(FENCES_EBX + "89 03 EB F0", 20);
        faulty("89 C4 " + FENCES_ESP + "EB F2", 7, 14);
        // the first such
        faulty("90 EB FF EB FF", 7, 1);
    }

    private static void lastUnits() {
        faultyWhole("90 ".repeat(32), 8, 31);
        faultyWhole("90 ".repeat(27) + "E8 DB FF FF FF", 7, 27);
        faultyWhole("90 ".repeat(27) + "E8 E0 FF FF FF", 8, 27);
        C.due("jmp L", Fences.of("90 ".repeat(27) + "E9 E0 FF FF FF").look(), 28);
        C.due("jmp S8", Fences.of("90 ".repeat(30) + "EB FE").look(), 31);
        faultyWhole("90 ".repeat(30) + "74 FE", 8, 30);
        faultyWhole("90 ".repeat(30) + "E2 FE", 8, 30);
        C.due("JUMP UNIT with jmp", Fences.of("90 ".repeat(27) + "83 E7 E0 FF E7").look(), 29);
        faultyWhole("90 ".repeat(27) + "83 E7 E0 FF D7", 8, 27);
        faultyWhole("90 ".repeat(18) + FENCES_EBX + "89 03", 8, 18);
        faultyWhole("90 ".repeat(18) + "89 C4 " + FENCES_ESP, 8, 18);
        faultyWhole("90 ".repeat(20) + FENCES_EBX, 8, 26);
    }

    private static void orderOfFaults() {
        faultyWhole("EB FF " + "90 ".repeat(29) + "90", 7, 0);
        faulty("EB FF 0F 05", 2, 2);
        faulty("89 03 FF E0", 5, 0);
        faulty("FF E0 89 03", 4, 0);
        faulty("FF D4", 4, 0);
        faulty("90 87 23 0F 05", 6, 1);
    }

    private static void units() {
        BundleFence x = Fences.bundle("83 E0 E0 FF D0 " + FENCES_EBX + "89 03 40");
        C.due("unit(0) before look()", x.unit(0), -1);
        C.due("look()", x.look(), 2 + 3 + 1 + 12);
        String want = "10020" + "100000200000" + "20" + "1";
        for (int i = 0; i < 32; i++) {
            C.due("unit(" + i + ")", x.unit(i), i < 20 ? want.charAt(i) - '0' : 1);
        }
        C.due("unit(-1)", x.unit(-1), -1);
        C.due("unit(32)", x.unit(32), -1);
        C.due("unit(2048)", x.unit(2048), -1);
        C.due("unit(least)", x.unit(Integer.MIN_VALUE), -1);
        BundleFence y = Fences.bundle("89 C4 " + FENCES_ESP);
        y.look();
        String stack = "10" + "200000" + "200000";
        for (int i = 0; i < 14; i++) {
            C.due("unit(" + i + ") of a STACK UNIT", y.unit(i), stack.charAt(i) - '0');
        }
    }

    private static void whatIsForgotten() {
        BundleFence x = Fences.bundle("");
        C.due("look()", x.look(), 32);
        C.due("look() again", x.look(), 32);
        x.feed(1, 0x90);
        C.due("unit(0) behind feed", x.unit(0), -1);
        C.due("fault() behind feed", x.fault(), 0);
        C.due("look() with 33", x.look(), -1);
        C.due("fault()", x.fault(), 1);
        x.feed(1, 0x90);
        C.due("fault() is forgotten", x.fault(), 0);
        C.due("place() is forgotten", x.place(), -1);
        Fences.load(x, Fences.filled("90 EB 00 FF E0", 32));
        x.look();
        C.due("another image's fault", x.fault(), 4);
        C.due("another image's place", x.place(), 3);
        x.wipe();
        C.due("fault() behind wipe", x.fault(), 0);
        C.due("place() behind wipe", x.place(), -1);
        // marks of a longer image do not count for a shorter one
        Fences.load(x, Fences.filled("", 64));
        x.look();
        Fences.load(x, "EB 1E " + Fences.filled("", 30));
        C.due("look() at the shorter one", x.look(), -1);
        C.due("its fault", x.fault(), 7);
    }
}
