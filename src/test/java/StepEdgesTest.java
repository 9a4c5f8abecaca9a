/** Section 6: STEPS that can't be done, at the edges of the image, GATES, DATA and MARGINS. */
public final class StepEdgesTest {
    private static final Check C = new Check("StepEdgesTest");
    private static final Steps S = new Steps(C);
    private static final String HEAD = "6 RUNNING";
    /** In the images of Steps: where they begin and end. */
    private static final int FIRST = 0x1000;
    private static final int END = 0x1040;

    public static void main(String[] args) {
        eipIsNeitherInTheImageNorAGate();
        eipAtGates();
        readsAtTheEdges();
        readsOfAFullImage();
        writesAtTheEdges();
        writesBeyondTheMargins();
        noInstructionBeginsThere();
        noneThatIsPartOfItsUnits();
        lookedThroughAheadOrAnyway();
        imageWithAFaultIsNotValid();
        haltIsDone();
        trapsComeBehindReading();
        nothingOfItIs();
        readsFirst();
        pushReadsThenWrites();
        popReadsThenWrites();
        C.end();
    }

    /** A run that stands at an address, in an image of so many bytes. */
    private static BundleFence standingAt(int address, int size) {
        BundleFence x = Fences.of(Fences.filled("FF E1", size));
        x.begin(true);
        x.put(1, address);
        C.due("the jmp to " + Integer.toHexString(address), x.run(1), 1);
        return x;
    }

    private static void stays(BundleFence x, int state, int eip) {
        for (int k = 0; k < 8; k++) {
            x.put(k, 1000 + k);
        }
        C.due("run(9) at " + Integer.toHexString(eip), x.run(9), 0);
        C.due("STATE at " + Integer.toHexString(eip), x.told(0), state);
        C.due("EIP", x.told(1), eip);
        C.due("steps()", x.steps(), 1);
        C.due("FLAGS", x.told(7), 0);
        for (int k = 0; k < 8; k++) {
            C.due("register(" + k + ")", x.register(k), 1000 + k);
        }
    }

    private static void eipIsNeitherInTheImageNorAGate() {
        C.says(HEAD, "5, if EIP is neither in the image nor a GATE's address");
        for (int size : new int[] {3, 31, 32, 33, 64, 2047, 2048}) {
            BundleFence last = standingAt(0x1000 + size - 1, size);
            C.due("run(9) at the last place of " + size, last.run(9), 1);
            C.due("STATE", last.told(0), 3);
            stays(standingAt(0x1000 + size, size), 5, 0x1000 + size);
            stays(standingAt(0xFFF, size), 5, 0xFFF);
        }
        int[] nowhere = {0, 1, 0x3E0, 0x3FF, 0x600, 0x620, 0x1800, 0x10000, 0x1FFFF, 0xFFFF, 0x20000, -1, -32, 0x80000400,
            0x80001000, 0x7FFFFFFF, 0x80000000, 0x10400, 0x11000};
        for (int eip : nowhere) {
            stays(standingAt(eip, 32), 5, eip);
        }
    }

    private static void eipAtGates() {
        C.says(HEAD, "With EIP the address of GATE k: SERVICE k");
        for (int k = 0; k < 16; k++) {
            int gate = 0x400 + 32 * k;
            stays(standingAt(gate + 1, 32), 5, gate + 1);
            stays(standingAt(gate + 16, 32), 5, gate + 16);
            stays(standingAt(gate + 31, 32), 5, gate + 31);
            BundleFence x = standingAt(gate, 32);
            x.put(4, 0x10000);
            C.due("SERVICE " + k, x.run(1), 1);
            C.due("steps()", x.steps(), 2);
        }
        stays(standingAt(0x3E0, 32), 5, 0x3E0);
        stays(standingAt(0x600, 32), 5, 0x600);
    }

    private static String ebx(int address) {
        return String.format("ebx=%X", address);
    }

    private static void readsAtTheEdges() {
        C.says(HEAD, "or it reads what is not all in DATA or all in the image");
        // cmp of 8, movzx of 16 and cmp: they read, and change flags or eax alone
        String[] reads = {"80 3B 00", "0F B7 03", "83 3B 00"};
        for (int k = 0; k < 3; k++) {
            int width = 1 << k;
            C.due("at DATA's beginning", done(reads[k], 0x10000), 1);
            C.due("at DATA's end", done(reads[k], 0x20000 - width), 1);
            C.due("at the image's beginning", done(reads[k], FIRST), 1);
            C.due("at the image's end", done(reads[k], END - width), 1);
            for (int back = 1; back <= width; back++) {
                S.not(reads[k], ebx(0x10000 - back), 5);
                S.not(reads[k], ebx(0x20000 - width + back), 5);
                S.not(reads[k], ebx(FIRST - back), 5);
                S.not(reads[k], ebx(END - width + back), 5);
                S.not(reads[k], ebx(-back), 5);
            }
            for (int a : new int[] {0, 0x400, 0xF000, 0xFFFF - 8, 0x20000, 0x20FFF, 0x21000, 0x80001000, 0x80010000}) {
                S.not(reads[k], ebx(a), 5);
            }
        }
    }

    private static int done(String hex, int address) {
        return Steps.ready(hex, ebx(address)).run(1);
    }

    private static void readsOfAFullImage() {
        C.says(HEAD, "all in the image");
        for (int size : new int[] {8, 32, 2040, 2047, 2048}) {
            for (int over = 0; over <= 4; over++) {
                BundleFence x = Fences.of(Fences.filled("8B 03", size));
                x.begin(true);
                x.put(3, 0x1000 + size - 4 + over);
                C.due("a LONG " + over + " beyond the end of " + size, x.run(1), over == 0 ? 1 : 0);
                C.due("STATE", x.told(0), over == 0 ? 1 : 5);
            }
        }
        // an image of two bytes: a WORD is all in it, a LONG is not
        BundleFence small = Fences.of("8B 03");
        small.begin(true);
        small.put(3, 0x1000);
        C.due("a LONG of two bytes", small.run(1), 0);
        C.due("STATE", small.told(0), 5);
    }

    private static void writesAtTheEdges() {
        C.says(HEAD, "or writes what is not all in DATA, but all in DATA and MARGINS.");
        String[] writes = {"C6 03 5A", "66 89 03", "C7 03 5A 5A 5A 5A"};
        for (int k = 0; k < 3; k++) {
            int width = 1 << k;
            C.due("at DATA's beginning", done(writes[k], 0x10000), 1);
            C.due("at DATA's end", done(writes[k], 0x20000 - width), 1);
            for (int back = 1; back <= width; back++) {
                S.not(writes[k], ebx(0x10000 - back), 5);
                S.not(writes[k], ebx(0x20000 - width + back), 5);
            }
            S.not(writes[k], ebx(0xF000), 5);
            S.not(writes[k], ebx(0x10000 - width), 5);
            S.not(writes[k], ebx(0x20000), 5);
            S.not(writes[k], ebx(0x21000 - width), 5);
            for (int back = 1; back <= width; back++) {
                S.not(writes[k], ebx(0xF000 - back), 6);
                S.not(writes[k], ebx(0x21000 - width + back), 6);
            }
        }
        // the bytes beside what is written stay
        BundleFence x = Steps.ready("C7 03 01 02 03 04", "ebx=10101 m=FFFFFFFF n=FFFFFFFF");
        x.run(1);
        C.due("the LONG at 0x10100", String.format("%08X", Fences.peekLong(x, 0x10100)), "030201FF");
        C.due("the LONG at 0x10104", String.format("%08X", Fences.peekLong(x, 0x10104)), "FFFFFF04");
    }

    private static void writesBeyondTheMargins() {
        C.says(HEAD, "or it writes anything else.");
        for (int a : new int[] {0, 0x3FE, 0x400, FIRST - 1, FIRST, END - 1, END, 0x1800, 0xEFFF, 0x21000, -1, -4, 0x80010000}) {
            S.not("C6 03 5A", ebx(a), 6);
            S.not("88 03", ebx(a) + " f=CSO", 6);
        }
        S.not("C7 03 5A 5A 5A 5A", ebx(-1), 6);
        S.not("C7 03 5A 5A 5A 5A", ebx(-2), 6);
        S.not("66 89 03", ebx(-1), 6);
        S.not("0F 90 03", ebx(FIRST), 6);
    }

    private static void noInstructionBeginsThere() {
        C.says(HEAD, "6, if EIP is in the image, but no instruction begins and ends there");
        for (String hex : new String[] {"06", "0F 05", "66 91", "FE D0", "8D C0"}) {
            BundleFence x = Fences.bundle("40 " + hex);
            x.begin(true);
            x.put(7, 8);
            C.due("run(9) to " + hex, x.run(9), 1);
            C.due("STATE", x.told(0), 6);
            C.due("EIP", x.told(1), 0x1001);
            C.due("eax behind the inc", x.register(0), 1);
            C.due("edi", x.register(7), 8);
            C.due("FLAGS", x.told(7), 0);
        }
        // it begins, but does not end there
        for (String cut : new String[] {"B8", "B8 00 00 00", "0F", "66", "8B", "8B 04", "8B 43", "E8 00", "EB", "69 C0 00 00 00"}) {
            BundleFence x = Fences.of("40 " + cut);
            x.begin(true);
            C.due("run(9) to " + cut, x.run(9), 1);
            C.due("STATE", x.told(0), 6);
            C.due("EIP", x.told(1), 0x1001);
            BundleFence full = Fences.of(Fences.nops(2048 - Fences.bytes(cut).length) + cut);
            full.begin(true);
            C.due("run(10000) to " + cut, full.run(10000), 2048 - Fences.bytes(cut).length);
            C.due("STATE", full.told(0), 6);
        }
    }

    /** At place 0 mov eax,0x40404040, at 5 a JUMP UNIT of ecx. */
    private static final String HIDDEN = "B8 40 40 40 40 83 E1 E0 FF E1";

    /** Leads the run from place 0 to an address. */
    private static void lead(BundleFence x, int address) {
        C.due("the mov and the and", x.run(2), 2);
        x.put(1, address);
        C.due("the jmp", x.run(1), 1);
    }

    private static void noneThatIsPartOfItsUnits() {
        C.says(HEAD, "none that is part of its UNITS; an instruction in the midst of a UNIT is one; of one that was not looked "
            + "through it is only asked whether an instruction begins and ends there)");
        for (int place = 0; place < 32; place++) {
            boolean part = place == 0 || place == 5 || place >= 8 && place != 9;
            // 0xE0 and 0xE1 are no instructions
            boolean begins = place != 6 && place != 7 && place != 9;
            BundleFence looked = Fences.looked(HIDDEN, 32);
            looked.begin(false);
            lead(looked, 0x1000 + place);
            C.due("a STEP at place " + place + ", looked through", looked.run(1), part ? 1 : 0);
            C.due("STATE", looked.told(0), part ? place == 31 ? 3 : 1 : 6);
            BundleFence other = Fences.bundle(HIDDEN);
            other.begin(true);
            lead(other, 0x1000 + place);
            C.due("a STEP at place " + place + ", not looked through", other.run(1), begins ? 1 : 0);
            C.due("STATE", other.told(0), begins ? place == 31 ? 3 : 1 : 6);
        }
    }

    private static void lookedThroughAheadOrAnyway() {
        C.says(HEAD, "(of a VALID one that was looked through before this STEP, also when the run was begun anyway or ahead of "
            + "that");
        BundleFence anyway = Fences.looked(HIDDEN, 32);
        anyway.begin(true);
        lead(anyway, 0x1001);
        C.due("begun anyway, looked through", anyway.run(1), 0);
        C.due("STATE", anyway.told(0), 6);
        BundleFence ahead = Fences.bundle(HIDDEN);
        ahead.begin(true);
        lead(ahead, 0x1001);
        C.due("a STEP before the look", ahead.run(1), 1);
        C.due("look()", ahead.look(), 25);
        C.due("a STEP behind the look", ahead.run(1), 0);
        C.due("STATE", ahead.told(0), 6);
        C.due("EIP", ahead.told(1), 0x1002);
    }

    private static void imageWithAFaultIsNotValid() {
        C.says(HEAD, "of one that was not looked through it is only asked whether an instruction begins and ends there");
        BundleFence bad = Fences.looked(HIDDEN + " 88 00", 32);
        C.due("fault()", bad.fault(), 5);
        bad.begin(true);
        lead(bad, 0x1001);
        C.due("a STEP in the midst, with a fault", bad.run(1), 1);
        // fed again: what was looked through counts no more
        BundleFence fed = Fences.looked(HIDDEN, 32);
        fed.feed(1, 0x90);
        fed.begin(true);
        lead(fed, 0x1001);
        C.due("a STEP in the midst, fed again", fed.run(1), 1);
    }

    private static void haltIsDone() {
        C.says(HEAD, "hlt is done as a STEP: 3, EIP behind it.");
        for (int size : new int[] {1, 2, 32, 2048}) {
            BundleFence x = Fences.of(Fences.filled("", size));
            x.begin(true);
            C.due("run(10000) of " + size, x.run(10000), size);
            C.due("STATE", x.told(0), 3);
            C.due("EIP", x.told(1), 0x1000 + size);
            C.due("passed(" + (size - 1) + ")", x.passed(size - 1), 1);
            C.due("steps()", x.steps(), size);
            C.due("run(1) again", x.run(1), 0);
            C.due("STATE", x.told(0), 3);
        }
    }

    private static void trapsComeBehindReading() {
        C.says(HEAD, "4, if it TRAPS.");
        S.not("F7 F1", "ecx=0 f=CSO", 4);
        S.not("F7 33", "m=0", 4);
        S.not("F7 33", "ebx=20000", 5);
        S.not("F6 33", "ebx=FFF", 5);
        S.not("F7 3B", "ebx=1FFFD", 5);
        // the image can be divided by: its first byte is not 0
        C.due("div of the image", Steps.ready("F6 33", "ebx=1000 eax=5").run(1), 1);
    }

    private static void nothingOfItIs() {
        C.says(HEAD, "If it can't be done, nothing of it is, it is no STEP, EIP stays, and the STATE is");
        // each that changes a register or flags ahead of the write that can't be done
        String[] tries = {"53", "E8 00 00 00 00", "FF D1", "6A 01"};
        for (String t : tries) {
            S.not(t, "esp=0 f=CSO", 6);
            S.not(t, "esp=10000 f=CSO", 5);
        }
        String[] writes = {"87 3B", "87 0B", "0F C1 3B", "01 03", "11 03", "FF 03", "F7 1B", "D1 13", "C1 2B 03", "0F A4 03 01", "87 03", "0F C1 03", "86 03"};
        for (String w : writes) {
            S.not(w, "ebx=1000 f=CPZO", 6);
            S.not(w, "ebx=20000 f=S", 5);
        }
        S.not("8F 03", "ebx=1000 s=7 f=CSO", 6);
        S.not("8F 03", "ebx=FFFF s=7 f=CSO", 5);
        // the memory is as it was, too: what is written in part is not
        BundleFence x = Steps.ready("89 03", "ebx=1FFFE eax=FFFFFFFF");
        x.run(1);
        C.due("DATA's last byte", x.peek(0x1FFFF), 0);
        C.due("DATA's last byte but one", x.peek(0x1FFFE), 0);
        BundleFence y = Steps.ready("89 03", "ebx=FFFE eax=FFFFFFFF");
        y.run(1);
        C.due("DATA's first byte", y.peek(0x10000), 0);
    }

    private static void readsFirst() {
        C.says(HEAD, "(What reads and writes memory reads first; of call, push, pop E, cmpxchg: in the order told.");
        String[] both = {"00 03", "09 03", "83 03 01", "FE 03", "F7 13", "F6 1B", "D0 03", "D3 23", "0F AC 03 01", "87 03", "0F C1 03",
            "0F B1 03"};
        for (String b : both) {
            // where it can be neither read nor written, reading tells
            S.not(b, "ebx=0 ecx=1", 5);
            S.not(b, "ebx=EFFF ecx=1", 5);
            S.not(b, "ebx=21000 ecx=1", 5);
            S.not(b, "ebx=FFFFFFFF ecx=1", 5);
            S.not(b, "ebx=20000 ecx=1", 5);
        }
        // what only writes is told by writing
        for (String w : new String[] {"88 03", "89 03", "C6 03 01", "C7 03 01 00 00 00", "66 89 03", "0F 94 03"}) {
            S.not(w, "ebx=0", 6);
            S.not(w, "ebx=20000", 5);
        }
    }

    private static void pushReadsThenWrites() {
        C.says(HEAD, "of call, push, pop E, cmpxchg: in the order told");
        S.not("FF 33", "ebx=0 esp=0", 5);
        S.not("FF 33", "ebx=20000 esp=10000", 5);
        S.not("FF 33", "esp=0", 6);
        S.not("FF 33", "esp=10000", 5);
        S.not("FF 33", "esp=10003", 5);
        S.row("FF 33", "esp=10004 m=7", "esp=10000");
        S.not("FF 33", "ebx=1000 esp=F003", 6);
        S.not("FF 33", "ebx=1000 esp=F004", 5);
        S.not("FF 33", "ebx=1000 esp=21001", 6);
        S.not("FF 33", "ebx=1000 esp=21000", 5);
    }

    private static void popReadsThenWrites() {
        C.says(HEAD, "of call, push, pop E, cmpxchg: in the order told");
        S.not("8F 03", "ebx=0 esp=20000", 5);
        S.not("8F 03", "ebx=0 esp=0", 5);
        S.not("8F 03", "ebx=0", 6);
        S.not("8F 03", "ebx=20000", 5);
        S.not("8F 03", "ebx=1000 esp=1FFFD", 5);
        S.not("8F 03", "ebx=1000 esp=1FFFC", 6);
        // taken from the image
        S.not("8F 03", "ebx=1000 esp=1000", 6);
        S.not("59", "esp=FFF", 5);
        S.not("59", "esp=103D", 5);
        C.due("a pop of the image's last LONG", Steps.ready("59", "esp=103C").run(1), 1);
        C.due("a pop of the image's first LONG", Steps.ready("59", "esp=1000").run(1), 1);
    }
}
