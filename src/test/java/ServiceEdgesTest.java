/** Section 6: the SERVICES at the edges of their numbers, of DATA, of the OUTPUT and of the INPUT. */
public final class ServiceEdgesTest {
    private static final Check C = new Check("ServiceEdgesTest");
    private static final String HEAD = "6 RUNNING";
    private static final int LEAST = Integer.MIN_VALUE;
    private static final int MOST = Integer.MAX_VALUE;
    /** Address and number: just all in DATA. */
    private static final int[][] IN_DATA = {{0x10000, 1}, {0x1FFFF, 1}, {0x10000, 0x10000}, {0x10001, 0xFFFF}, {0x1FFFE, 2},
        {0x18000, 0x8000}};
    /** Address and number: not all in DATA. */
    private static final int[][] OUTSIDE = {{0xFFFF, 1}, {0xFFFF, 2}, {0xFFFF, 0x10001}, {0x20000, 1}, {0x1FFFF, 2},
        {0x10000, 0x10001}, {0x10001, 0x10000}, {0x18000, 0x8001}, {0x1000, 1}, {0xF000, 1}, {0x10000, -1}, {0x10000, LEAST},
        {0x10000, MOST}, {0x10001, -0x10000}, {0x1FFFF, -0x1FFFE}, {0, 1}, {-1, 1}, {-1, 2}, {-1, 0x10002}, {-1, -1},
        {0x80010000, 1}, {LEAST, LEAST}, {MOST, MOST}};

    public static void main(String[] args) {
        serviceReturns();
        returnIsReadAsAnyLong();
        leaveDoesNothingOfThis();
        writeBringsToTheOutput();
        writeHasRoomFor1024();
        bytesHaveToLieInData();
        nothingIsDoneOutside();
        zeroBytesAreAnywhere();
        readTakesTheNextBytes();
        readAtMostWhatWaits();
        readToDatasEdges();
        stepsDoneBefore();
        breakBecomesEbx();
        seedGoesOn();
        sumOfBytes();
        pauseStops();
        othersAnswerMinus38();
        promise21TellsTheOutput();
        C.end();
    }

    private static void serviceReturns() {
        C.says(HEAD, "R is the LONG at esp (read as told above); then EIP is R with its lowest five bits 0, esp is 4 more, eax is "
            + "the answer (k 0: nothing of this).");
        int[] returns = {0, 1, 31, 32, 33, 0x1000, 0x101F, 0x1020, 0x17FF, -1, -32, -33, LEAST, MOST, 0x41F, 0x3FF};
        for (int k = 1; k < 16; k++) {
            for (int r : returns) {
                BundleFence x = Fences.atGate(k);
                x.put(4, 0x10010);
                x.put(2, 0x1234);
                Fences.pokeLong(x, 0x10010, r);
                C.due("service " + k, x.run(1), 1);
                C.due("EIP with R " + r, x.told(1), r & -32);
                C.due("esp", x.register(4), 0x10014);
                C.due("edx", x.register(2), 0x1234);
                C.due("FLAGS", x.told(7), 0);
                C.due("steps()", x.steps(), 2);
                C.due("R stays", Fences.peekLong(x, 0x10010), r);
            }
        }
    }

    private static void returnIsReadAsAnyLong() {
        C.says(HEAD, "R is the LONG at esp (read as told above)");
        for (int k = 1; k < 16; k++) {
            for (int esp : new int[] {0x10000, 0x1FFFC, 0x1000, 0x101C, 0x10001, 0x1001}) {
                BundleFence x = Fences.atGate(k);
                x.put(4, esp);
                C.due("service " + k + " with esp " + esp, x.run(1), 1);
                C.due("esp", x.register(4), esp + 4);
            }
            for (int esp : new int[] {0xFFFF, 0xFFFC, 0x1FFFD, 0x20000, 0xFFF, 0x101D, 0, -1, -4, -3, LEAST, 0x80010000}) {
                BundleFence x = Fences.atGate(k);
                x.give(1, 9);
                x.put(0, 55);
                x.put(3, 0x12345);
                x.put(1, 1);
                x.put(4, esp);
                C.due("service " + k + " with esp " + esp, x.run(1), 0);
                C.due("STATE", x.told(0), 5);
                C.due("EIP", x.told(1), Fences.gate(k));
                C.due("esp", x.register(4), esp);
                C.due("eax", x.register(0), 55);
                C.due("OUTPUT", x.told(3), 0);
                C.due("INPUT", x.told(4), 1);
                C.due("BREAK", x.told(5), 0x10000);
                C.due("SEED", x.told(6), 0);
                C.due("steps()", x.steps(), 1);
            }
        }
    }

    private static void leaveDoesNothingOfThis() {
        C.says(HEAD, "0: LEAVE, with ebx: STATE 2.");
        for (int ebx : new int[] {0, 1, -1, LEAST, MOST, 0x10000}) {
            for (int esp : new int[] {0x1FFFC, 0, 0x20000, -1}) {
                BundleFence x = Fences.atGate(0);
                x.put(3, ebx);
                x.put(4, esp);
                x.put(0, 77);
                C.due("told(2) before", x.told(2), 0);
                C.due("LEAVE", x.run(5), 1);
                C.due("STATE", x.told(0), 2);
                C.due("told(2)", x.told(2), ebx);
                C.due("EIP", x.told(1), 0x400);
                C.due("esp", x.register(4), esp);
                C.due("eax", x.register(0), 77);
                C.due("steps()", x.steps(), 2);
                C.due("run(5) again", x.run(5), 0);
            }
        }
    }

    private static void writeBringsToTheOutput() {
        C.says(HEAD, "1 WRITE: ecx bytes from address ebx on come to the OUTPUT, as many as it has room for (1024 bytes in all): "
            + "how many.");
        BundleFence x = Fences.atGate(1);
        // R away from DATA's end
        Fences.pokeLong(x, 0x18000, 0x1005);
        x.put(4, 0x18000);
        x.poke(0x10000, 255);
        x.poke(0x10001, 128);
        x.poke(0x1FFFF, 7);
        C.due("WRITE of 2", Fences.serve(x, 0x10000, 2), 2);
        C.due("WRITE of DATA's last", Fences.serve(x, 0x1FFFF, 1), 1);
        C.due("WRITE of 1", Fences.serve(x, 0x10001, 1), 1);
        int[] want = {255, 128, 7, 128};
        for (int i = 0; i < 4; i++) {
            C.due("output(" + i + ")", x.output(i), want[i]);
        }
        C.due("OUTPUT", x.told(3), 4);
    }

    private static void writeHasRoomFor1024() {
        C.says(HEAD, "as many as it has room for (1024 bytes in all): how many");
        int[][] writes = {{1023, 1, 1}, {1023, 2, 1}, {1024, 1, 0}, {1022, 2, 2}, {1022, 3, 2}, {1022, 1, 1}, {0, 1024, 1024},
            {0, 1025, 1024}, {0, 0x10000, 1024}, {1024, 0x10000, 0}, {1, 0x10000, 1023}};
        for (int[] w : writes) {
            BundleFence x = Fences.atGate(1);
            x.poke(0x10000, 0xAB);
            x.poke(0x10400, 0xCD);
            C.due("WRITE of " + w[0], Fences.serve(x, 0x10000, w[0]), w[0]);
            C.due("WRITE of " + w[1] + " behind " + w[0], Fences.serve(x, 0x10000, w[1]), w[2]);
            int all = w[0] + w[2];
            C.due("OUTPUT", x.told(3), all);
            C.due("the first byte of the second WRITE", x.output(w[0]), w[2] == 0 ? -1 : 0xAB);
            C.due("the last byte", x.output(all - 1), all - 1 == w[0] && w[2] > 0 ? 0xAB : 0);
            C.due("behind the last byte", x.output(all), -1);
            C.due("STATE", x.told(0), 1);
        }
    }

    private static void bytesHaveToLieInData() {
        C.says(HEAD, "(1, 2: -14, and nothing is done, if these ecx bytes are not all in DATA; with ecx 0: 0.)");
        for (int k : new int[] {1, 2, 6}) {
            BundleFence x = Fences.atGate(k);
            for (int[] n : IN_DATA) {
                C.due("service " + k + " of " + n[1] + " at " + n[0], Fences.serve(x, n[0], n[1]) != -14, true);
            }
            BundleFence y = Fences.atGate(k);
            for (int[] n : OUTSIDE) {
                C.due("service " + k + " of " + n[1] + " at " + n[0], Fences.serve(y, n[0], n[1]), -14);
            }
        }
    }

    private static void nothingIsDoneOutside() {
        C.says(HEAD, "-14, and nothing is done, if these ecx bytes are not all in DATA");
        BundleFence writer = Fences.atGate(1);
        BundleFence reader = Fences.atGate(2);
        reader.give(3, 0x030201);
        for (int[] n : OUTSIDE) {
            C.due("WRITE", Fences.serve(writer, n[0], n[1]), -14);
            C.due("OUTPUT", writer.told(3), 0);
            C.due("READ", Fences.serve(reader, n[0], n[1]), -14);
            C.due("INPUT", reader.told(4), 3);
        }
        C.due("DATA's first byte", reader.peek(0x10000), 0);
        C.due("output(0)", writer.output(0), -1);
        C.due("READ behind it all", Fences.serve(reader, 0x10000, 3), 3);
        C.due("what was read", Fences.peekLong(reader, 0x10000), 0x030201);
    }

    private static void zeroBytesAreAnywhere() {
        C.says(HEAD, "with ecx 0: 0.");
        for (int k : new int[] {1, 2, 6}) {
            BundleFence x = Fences.atGate(k);
            x.give(1, 5);
            for (int ebx : new int[] {0, 0xFFFF, 0x10000, 0x1FFFF, 0x20000, 0x1000, -1, LEAST, MOST}) {
                C.due("service " + k + " of 0 at " + ebx, Fences.serve(x, ebx, 0), 0);
            }
            C.due("OUTPUT", x.told(3), 0);
            C.due("INPUT", x.told(4), 1);
        }
        // a full OUTPUT, an empty INPUT
        BundleFence full = Fences.atGate(1);
        C.due("WRITE of 1024", Fences.serve(full, 0x10000, 1024), 1024);
        C.due("WRITE of 0 to a full one", Fences.serve(full, 0, 0), 0);
        C.due("READ of 0 of an empty one", Fences.serve(Fences.atGate(2), 0, 0), 0);
    }

    private static void readTakesTheNextBytes() {
        C.says(HEAD, "2 READ: the next bytes of the INPUT go to ebx and on, at most ecx: how many.");
        BundleFence x = Fences.atGate(2);
        x.give(8, 0x8877665544332211L);
        x.poke(0x10003, 0xEE);
        C.due("READ of 3", Fences.serve(x, 0x10000, 3), 3);
        C.due("what was read", Fences.peekLong(x, 0x10000), 0xEE332211);
        C.due("INPUT", x.told(4), 5);
        C.due("READ of 1", Fences.serve(x, 0x10000, 1), 1);
        C.due("what was read", Fences.peekLong(x, 0x10000), 0xEE332244);
        C.due("give(2)", x.give(2, 0xAA99), 6);
        C.due("READ of 6", Fences.serve(x, 0x10000, 6), 6);
        C.due("what was read", Fences.peekLong(x, 0x10000), 0x88776655);
        C.due("and behind it", Fences.peekLong(x, 0x10004), 0xAA99);
        C.due("READ of no more", Fences.serve(x, 0x10000, 1), 0);
        C.due("DATA stays", x.peek(0x10000), 0x55);
    }

    private static void readAtMostWhatWaits() {
        C.says(HEAD, "at most ecx: how many");
        int[][] reads = {{0, 1, 0}, {1, 1, 1}, {1, 2, 1}, {2, 1, 1}, {8, 7, 7}, {8, 8, 8}, {8, 9, 8}, {8, 0x10000, 8}};
        for (int[] r : reads) {
            BundleFence x = Fences.atGate(2);
            if (r[0] > 0) {
                x.give(r[0], -1L);
            }
            C.due("READ of " + r[1] + " of " + r[0], Fences.serve(x, 0x10000, r[1]), r[2]);
            C.due("INPUT", x.told(4), r[0] - r[2]);
            C.due("the last byte that was read", r[2] == 0 ? 255 : x.peek(0x10000 + r[2] - 1), 255);
            C.due("the byte behind it", x.peek(0x10000 + r[2]), 0);
        }
        // all 256, with a row that goes round
        BundleFence x = Fences.atGate(2);
        for (int round = 0; round < 3; round++) {
            int from = 100 * round;
            for (int i = 0; i < 25; i++) {
                long eight = 0;
                for (int b = 7; b >= 0; b--) {
                    eight = eight << 8 | (from + 8 * i + b & 255);
                }
                x.give(8, eight);
            }
            C.due("INPUT", x.told(4), 200);
            C.due("READ of all", Fences.serve(x, 0x10000, 256), 200);
            for (int i = 0; i < 200; i += 33) {
                C.due("byte " + i + " of round " + round, x.peek(0x10000 + i), from + i & 255);
            }
            C.due("the last byte of round " + round, x.peek(0x100C7), from + 199 & 255);
        }
    }

    private static void readToDatasEdges() {
        C.says(HEAD, "2 READ: the next bytes of the INPUT go to ebx and on");
        BundleFence x = Fences.atGate(2);
        x.give(4, 0x04030201);
        C.due("READ to DATA's last byte", Fences.serve(x, 0x1FFFF, 1), 1);
        // the call that comes behind each service writes R over it
        C.due("READ to DATA's first byte", Fences.serve(x, 0x10000, 1), 1);
        C.due("DATA's first byte", x.peek(0x10000), 2);
        C.due("the byte behind it", x.peek(0x10001), 0);
        // R is read before the service writes over it
        BundleFence y = Fences.atGate(2);
        y.give(4, -1L);
        y.put(3, 0x1FFFC);
        y.put(1, 4);
        C.due("READ over R", y.run(1), 1);
        C.due("EIP", y.told(1), 0x1000);
        C.due("what lies where R was", Fences.peekLong(y, 0x1FFFC), -1);
    }

    private static void stepsDoneBefore() {
        C.says(HEAD, "3: how many STEPS were done before.");
        BundleFence x = Fences.atGate(3);
        C.due("behind a call", Fences.serve(x, 0, 0), 1);
        C.due("behind two calls and a service", Fences.serve(x, 0, 0), 3);
        C.due("once more", Fences.serve(x, 0, 0), 5);
        x.begin(true);
        x.run(1);
        C.due("in a new run", Fences.serve(x, 0, 0), 1);
        // more than a run's 10000
        BundleFence y = Fences.atGate(3);
        for (int i = 0; i < 30; i++) {
            C.due("run(10000)", y.run(10000), 10000);
        }
        C.due("steps()", y.steps(), 300001);
        C.due("behind 300001", Fences.serve(y, 0, 0), 300001);
    }

    private static void breakBecomesEbx() {
        C.says(HEAD, "4: the BREAK becomes ebx, if that is in DATA and not below 0x10000, else it stays (0x10000 at first): the "
            + "BREAK.");
        BundleFence x = Fences.atGate(4);
        C.due("told(5) at first", x.told(5), 0x10000);
        C.due("below at first", Fences.serve(x, 0xFFFF, 0), 0x10000);
        C.due("DATA's last", Fences.serve(x, 0x1FFFF, 0), 0x1FFFF);
        C.due("told(5)", x.told(5), 0x1FFFF);
        for (int ebx : new int[] {0xFFFF, 0x20000, 0, 0x1000, -1, LEAST, MOST, 0x80010000, 0x110000}) {
            C.due("BREAK with " + ebx, Fences.serve(x, ebx, 0), 0x1FFFF);
            C.due("told(5)", x.told(5), 0x1FFFF);
        }
        C.due("DATA's first", Fences.serve(x, 0x10000, 0), 0x10000);
        C.due("told(5)", x.told(5), 0x10000);
        C.due("in between", Fences.serve(x, 0x10001, 0), 0x10001);
    }

    private static void seedGoesOn() {
        C.says(HEAD, "5: the SEED becomes SEED times 1103515245 and 12345 (0 at first): bits 30 to 16 of it.");
        BundleFence x = Fences.atGate(5);
        C.due("told(6) at first", x.told(6), 0);
        long seed = 0;
        boolean high = false;
        for (int i = 0; i < 60; i++) {
            seed = seed * 1103515245L + 12345L & 0xFFFFFFFFL;
            high |= seed >>> 31 != 0;
            C.due("the answer", Fences.serve(x, 0, 0), seed >>> 16 & 32767);
            C.due("told(6)", x.told(6), (int) seed);
        }
        C.due("bit 31 was 1 once", high, true);
        C.due("the first SEED", Fences.serve(Fences.atGate(5), 0, 0), 0);
        x.begin(true);
        C.due("told(6) of a new run", x.told(6), 0);
    }

    private static void sumOfBytes() {
        C.says(HEAD, "6: the sum, as LONGS, of the ecx bytes from ebx on, each times 31 to the number of bytes behind it; -14 "
            + "likewise.");
        BundleFence x = Fences.atGate(6);
        x.poke(0x10000, 255);
        x.poke(0x10001, 1);
        x.poke(0x10002, 128);
        C.due("of one", Fences.serve(x, 0x10000, 1), 255);
        C.due("of two", Fences.serve(x, 0x10000, 2), 255 * 31 + 1);
        C.due("of three", Fences.serve(x, 0x10000, 3), 255 * 961 + 31 + 128);
        C.due("of the last two", Fences.serve(x, 0x10001, 2), 31 + 128);
        C.due("of a 0", Fences.serve(x, 0x10003, 1), 0);
        // it wraps: 255 times 31 to the 7th
        long seven = 255L * 31 * 31 * 31 * 31 * 31 * 31 * 31 + 31L * 31 * 31 * 31 * 31 * 31 + 128L * 31 * 31 * 31 * 31 * 31;
        C.due("of eight", Fences.serve(x, 0x10000, 8), (int) seven);
        int all = 0;
        for (int i = 0; i < 0x10000; i++) {
            int b = i == 0 ? 255 : i == 1 ? 1 : i == 2 ? 128 : i == 0xFFFC ? 5 : i == 0xFFFD ? 0x10 : 0;
            all = all * 31 + b;
        }
        C.due("of all DATA, R 0x1005 with them", Fences.serve(x, 0x10000, 0x10000), all);
    }

    private static void pauseStops() {
        C.says(HEAD, "7: PAUSE: 0, STATE 7.");
        BundleFence x = Fences.atGate(7);
        x.put(0, 99);
        C.due("run(9)", x.run(9), 1);
        C.due("STATE", x.told(0), 7);
        C.due("eax", x.register(0), 0);
        C.due("EIP", x.told(1), 0x1000);
        C.due("esp", x.register(4), 0x20000);
        C.due("run(1)", x.run(1), 1);
        C.due("STATE", x.told(0), 1);
        C.due("run(9)", x.run(9), 1);
        C.due("STATE", x.told(0), 7);
        C.due("run(0)", x.run(0), 0);
        C.due("STATE", x.told(0), 1);
    }

    private static void othersAnswerMinus38() {
        C.says(HEAD, "8 to 15: -38.");
        for (int k = 8; k < 16; k++) {
            BundleFence x = Fences.atGate(k);
            x.give(2, 7);
            C.due("service " + k, Fences.serve(x, 0x10000, 2), -38);
            C.due("service " + k + " of nothing", Fences.serve(x, 0, 0), -38);
            C.due("STATE", x.told(0), 1);
            C.due("OUTPUT", x.told(3), 0);
            C.due("INPUT", x.told(4), 2);
            C.due("BREAK", x.told(5), 0x10000);
            C.due("SEED", x.told(6), 0);
        }
    }

    private static void promise21TellsTheOutput() {
        C.says("Promise 21", "Byte i of the OUTPUT; NONE when there is none.");
        BundleFence x = Fences.atGate(1);
        C.due("output(0) of an empty one", x.output(0), -1);
        C.due("output(-1) of an empty one", x.output(-1), -1);
        x.poke(0x10000, 255);
        Fences.serve(x, 0x10000, 1);
        C.due("output(0)", x.output(0), 255);
        for (int i : new int[] {1, -1, 1023, 1024, LEAST, MOST, -1024}) {
            C.due("output(" + i + ")", x.output(i), -1);
        }
        Fences.serve(x, 0x10000, 1023);
        C.due("output(1)", x.output(1), 255);
        C.due("output(1023)", x.output(1023), 0);
        C.due("output(1024)", x.output(1024), -1);
        C.due("output(-1)", x.output(-1), -1);
        // of the run that is over, too; a new one has none
        x.wipe();
        C.due("output(0) behind wipe()", x.output(0), 255);
        C.due("told(3) behind wipe()", x.told(3), 1024);
        x.feed(1, 0xF4);
        C.due("output(0) behind feed()", x.output(0), 255);
        x.begin(true);
        C.due("output(0) of a new run", x.output(0), -1);
        C.due("told(3) of a new run", x.told(3), 0);
    }
}
