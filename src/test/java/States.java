/** Objects whose run has come to each STATE; each used for few calls so far. */
final class States {
    static final int NONE = 0;
    static final int GOES_ON = 1;
    static final int LEFT = 2;
    static final int HALTED = 3;
    static final int TRAPPED = 4;
    static final int FENCED = 5;
    static final int ESCAPED = 6;
    static final int PAUSED = 7;
    static final int BREAK = 8;

    private States() {
    }

    /** An image that was not looked through, and a run of it in this STATE (1 to 8). */
    static BundleFence in(int state) {
        BundleFence x = Fences.bundle(program(state));
        start(x, state);
        return x;
    }

    /** Begins a run of an image with program(state), and leads it there. */
    static void start(BundleFence x, int state) {
        x.stop(2, state == BREAK);
        x.begin(true);
        x.put(3, 0x77);
        x.run(state == GOES_ON ? 2 : 9);
    }

    /** Each does at least one STEP: the first instruction is inc eax. */
    static String program(int state) {
        switch (state) {
            case LEFT:
                return "40 E8 " + Fences.le(Fences.gate(0) - 0x1006);
            case HALTED:
                return "40 F4";
            case TRAPPED:
                return "40 F7 F1";
            case FENCED:
                return "40 8B 03";
            case ESCAPED:
                return "40 0F 05";
            case PAUSED:
                return "40 E8 " + Fences.le(Fences.gate(7) - 0x1006);
            default:
                return "40 40 40 40";
        }
    }
}
