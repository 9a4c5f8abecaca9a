/**
 * A fence for programs that are not trusted: it takes an image of bytes apart, looks it through,
 * tells its instructions as texts and runs it step by step.
 */
public final class BundleFence {
    public static final int NONE = -1;

    private static final int BUNDLE = 32;
    private static final int GATES_START = 0x400;
    private static final int GATES = 16;

    private static final int GOES_ON = 1;
    private static final int LEFT = 2;
    private static final int HALTED = 3;
    private static final int TRAPPED = 4;
    private static final int FENCED = 5;
    private static final int ESCAPED = 6;
    private static final int PAUSED = 7;
    private static final int AT_BREAKPOINT = 8;

    private static final int EAX = 0;
    private static final int ECX = 1;
    private static final int EDX = 2;
    private static final int EBX = 3;
    private static final int ESP = 4;

    // What the operations have in common: the part of the machine that does them.
    private static final int ARITHMETIC = 0;
    private static final int SINGLE = 1;
    private static final int SHIFT = 2;
    private static final int DOUBLE_SHIFT = 3;
    private static final int PRODUCT = 4;
    private static final int QUOTIENT = 5;
    private static final int MOVE = 6;
    private static final int REARRANGE = 7;
    private static final int EXCHANGE = 8;
    private static final int STACK = 9;
    private static final int JUMP = 10;
    private static final int REST = 11;

    // What operands an instruction has, in the order of its text.
    private static final int NOTHING = 0;
    private static final int E_G = 1;
    private static final int G_E = 2;
    private static final int E_I = 3;
    private static final int E_CL = 4;
    private static final int E_ALONE = 5;
    private static final int I_ALONE = 6;
    private static final int G_E_I = 7;
    private static final int E_G_I = 8;
    private static final int TARGET = 9;

    private final Image image;
    private final Instruction instruction;
    private final Decoder decoder;
    private final Inspector inspector;
    private final Teller teller;
    private final Memory memory;
    private final Host host;
    private final Machine machine;
    private final boolean[] breakpoints;

    public BundleFence() {
        image = new Image();
        instruction = new Instruction();
        decoder = new Decoder(image, instruction);
        inspector = new Inspector(image, decoder, instruction);
        teller = new Teller(instruction);
        memory = new Memory(image);
        host = new Host(memory);
        machine = new Machine(inspector, decoder, instruction, memory, host);
        breakpoints = new boolean[Image.ROOM];
    }

    public int feed(int n, long bytes) throws IllegalArgumentException {
        if (n < 1 || n > 8) {
            throw new IllegalArgumentException("n is not 1 to 8");
        }
        if (image.count + n > Image.ROOM) {
            return NONE;
        }
        image.append(n, bytes);
        forgetProgram();
        return image.count;
    }

    public int wipe() {
        int had = image.count;
        image.count = 0;
        forgetProgram();
        return had;
    }

    /** What was found out about another image, and its run, count no more. */
    private void forgetProgram() {
        inspector.forget();
        machine.state = 0;
    }

    public int look() {
        return inspector.inspect();
    }

    public int fault() {
        return inspector.met;
    }

    public int place() {
        return inspector.metAt;
    }

    public int unit(int place) {
        if (!inspector.valid || !image.has(place)) {
            return NONE;
        }
        return inspector.markAt(place);
    }

    public int size(int place) {
        return decoder.decode(place);
    }

    public int tell(int place) {
        if (decoder.decode(place) == 0) {
            return NONE;
        }
        return teller.compose();
    }

    public long text(int i) {
        return teller.eightFrom(i);
    }

    public int poke(int address, int v) throws IllegalArgumentException {
        if (!Memory.inData(address, 1)) {
            throw new IllegalArgumentException("the address is not in DATA");
        }
        if (v < 0 || v > 255) {
            throw new IllegalArgumentException("v is not 0 to 255");
        }
        int was = memory.dataAt(address);
        memory.setData(address, v);
        return was;
    }

    public int peek(int address) {
        if (Memory.inData(address, 1)) {
            return memory.dataAt(address);
        }
        int place = address - Image.START;
        return image.has(place) ? image.row[place] & 0xFF : NONE;
    }

    public int give(int n, long bytes) throws IllegalArgumentException {
        if (n < 1 || n > 8) {
            throw new IllegalArgumentException("n is not 1 to 8");
        }
        if (host.waiting + n > Host.INPUT_ROOM) {
            return NONE;
        }
        host.take(n, bytes);
        return host.waiting;
    }

    public void begin(boolean anyway) throws IllegalStateException {
        if (!inspector.valid && !anyway) {
            throw new IllegalStateException("the image is not looked through and VALID");
        }
        if (image.count == 0) {
            throw new IllegalStateException("the image is empty");
        }
        host.restart();
        machine.restart();
        machine.state = GOES_ON;
    }

    public int run(int n) throws IllegalArgumentException, IllegalStateException {
        if (n < 0 || n > 10000) {
            throw new IllegalArgumentException("n is not 0 to 10000");
        }
        if (machine.state == 0) {
            throw new IllegalStateException("no run was begun");
        }
        machine.wake();
        int done = 0;
        for (int i = 0; i < n && machine.state == GOES_ON; i++) {
            if (i > 0 && hasBreakpoint(machine.eip)) {
                machine.state = AT_BREAKPOINT;
            } else if (machine.step()) {
                done++;
            }
        }
        return done;
    }

    private boolean hasBreakpoint(int address) {
        int place = address - Image.START;
        return place >= 0 && place < Image.ROOM && breakpoints[place];
    }

    public boolean stop(int place, boolean is) throws IllegalArgumentException {
        if (place < 0 || place >= Image.ROOM) {
            throw new IllegalArgumentException("place is not 0 to 2047");
        }
        boolean was = breakpoints[place];
        breakpoints[place] = is;
        return was;
    }

    public int told(int what) throws IllegalArgumentException {
        switch (what) {
            case 0:
                return machine.state;
            case 1:
                return machine.eip;
            case 2:
                return machine.leftWith;
            case 3:
                return host.written;
            case 4:
                return host.waiting;
            case 5:
                return host.dataBreak;
            case 6:
                return host.seed;
            case 7:
                return machine.flags.bits;
            default:
                throw new IllegalArgumentException("what is not 0 to 7");
        }
    }

    public long steps() {
        return machine.done;
    }

    public int register(int k) throws IndexOutOfBoundsException {
        if (k < 0 || k > 7) {
            throw new IndexOutOfBoundsException("there is no such register");
        }
        return machine.registers[k];
    }

    public int put(int k, int v) throws IndexOutOfBoundsException, IllegalStateException {
        if (k < 0 || k > 7) {
            throw new IndexOutOfBoundsException("there is no such register");
        }
        if (machine.state == 0) {
            throw new IllegalStateException("no run was begun");
        }
        int was = machine.registers[k];
        machine.registers[k] = v;
        return was;
    }

    public int output(int i) {
        return host.outputAt(i);
    }

    public int passed(int place) throws IllegalArgumentException {
        if (place < 0 || place >= Image.ROOM) {
            throw new IllegalArgumentException("place is not 0 to 2047");
        }
        return machine.passes[place];
    }

    /** The number of the gate with this address, or NONE. */
    private static int gateAt(int address) {
        int k = (address - GATES_START) >> 5;
        boolean is = k >= 0 && k < GATES && (address & (BUNDLE - 1)) == 0;
        return is ? k : NONE;
    }

    /** The bits that a number of so many bytes has. */
    private static int maskOf(int width) {
        if (width == 1) {
            return 0xFF;
        }
        return width == 2 ? 0xFFFF : -1;
    }

    /** The highest bit of a number of so many bytes. */
    private static int topOf(int width) {
        if (width == 1) {
            return 0x80;
        }
        return width == 2 ? 0x8000 : 0x80000000;
    }

    private static int withSign(int value, int width) {
        if (width == 1) {
            return (byte) value;
        }
        return width == 2 ? (short) value : value;
    }

    private static long unsigned(int value) {
        return value & 0xFFFFFFFFL;
    }

    /** An operation: its name, who does it, and what it writes (0 no operand, 1 the first, 2 both). */
    private enum Op {
        ADD("add", ARITHMETIC, 1), OR("or", ARITHMETIC, 1), ADC("adc", ARITHMETIC, 1),
        SBB("sbb", ARITHMETIC, 1), AND("and", ARITHMETIC, 1), SUB("sub", ARITHMETIC, 1),
        XOR("xor", ARITHMETIC, 1), CMP("cmp", ARITHMETIC, 0),
        // The eight shifts stand in the order of their digits; there is none with digit 6.
        ROL("rol", SHIFT, 1), ROR("ror", SHIFT, 1), RCL("rcl", SHIFT, 1), RCR("rcr", SHIFT, 1),
        SHL("shl", SHIFT, 1), SHR("shr", SHIFT, 1), NO_SHIFT("", REST, 0), SAR("sar", SHIFT, 1),
        TEST("test", ARITHMETIC, 0),
        INC("inc", SINGLE, 1), DEC("dec", SINGLE, 1), NEG("neg", SINGLE, 1), NOT("not", SINGLE, 1),
        SHLD("shld", DOUBLE_SHIFT, 1), SHRD("shrd", DOUBLE_SHIFT, 1),
        MUL("mul", PRODUCT, 0), IMUL_WIDE("imul", PRODUCT, 0), IMUL("imul", PRODUCT, 1),
        DIV("div", QUOTIENT, 0), IDIV("idiv", QUOTIENT, 0),
        MOV("mov", MOVE, 1), MOVZX("movzx", MOVE, 1), MOVSX("movsx", MOVE, 1),
        LEA("lea", MOVE, 1), CMOV("cmov", MOVE, 1), SET("set", MOVE, 1),
        BSF("bsf", REARRANGE, 1), BSR("bsr", REARRANGE, 1), BSWAP("bswap", REARRANGE, 1),
        CWDE("cwde", REARRANGE, 0), CDQ("cdq", REARRANGE, 0),
        XCHG("xchg", EXCHANGE, 2), XADD("xadd", EXCHANGE, 2), CMPXCHG("cmpxchg", EXCHANGE, 1),
        PUSH("push", STACK, 0), POP("pop", STACK, 1), CALL("call", STACK, 0),
        JMP("jmp", JUMP, 0), J("j", JUMP, 0), LOOP("loop", JUMP, 0), JECXZ("jecxz", JUMP, 0),
        HLT("hlt", REST, 0), NOP("nop", REST, 0),
        CMC("cmc", REST, 0), CLC("clc", REST, 0), STC("stc", REST, 0);

        final String word;
        final int kind;
        final int writes;

        Op(String word, int kind, int writes) {
            this.word = word;
            this.kind = kind;
            this.writes = writes;
        }
    }

    /** The row of bytes that programs are made of. */
    private static final class Image {
        static final int ROOM = 2048;
        static final int START = 0x1000;

        final byte[] row = new byte[ROOM];
        int count;

        boolean has(int place) {
            return place >= 0 && place < count && place < ROOM;
        }

        void append(int n, long bytes) {
            for (int i = 0; i < n && count < ROOM; i++) {
                row[count] = (byte) (bytes >>> (8 * i));
                count++;
            }
        }
    }

    /** One instruction, taken apart; the decoder fills it anew each time. */
    private static final class Instruction {
        Op op = Op.NOP;
        int form;
        int opcode;
        int condition;
        /** How many bytes G and the number have, and how many E has. */
        int width;
        int widthOfE;
        boolean inMemory;
        int rm;
        int reg;
        int base;
        int index;
        int scale;
        int displacement;
        int number;
        int length;

        void clear() {
            op = Op.NOP;
            form = NOTHING;
            opcode = 0;
            condition = 0;
            width = 4;
            widthOfE = 4;
            rm = 0;
            reg = 0;
            number = 0;
            length = 0;
            inMemory = false;
            base = NONE;
            index = NONE;
            scale = 0;
            displacement = 0;
        }

        boolean startsWithG() {
            return form == G_E || form == G_E_I;
        }

        boolean writesMemory() {
            return op.writes != 0 && inMemory && !startsWithG();
        }

        /** True for what writes esp or sp, but for push, call and pop of something else. */
        boolean writesStackPointer() {
            if (op.writes == 0 || width == 1) {
                return false;
            }
            boolean byG = startsWithG() || op.writes == 2;
            boolean byE = !startsWithG() && !inMemory;
            return byG && reg == ESP || byE && rm == ESP;
        }

        /** True if E is so near what the base tells that it can't leave the margins. */
        boolean isNear() {
            return inMemory && base != NONE && index == NONE
                    && displacement >= -2048 && displacement <= 2047;
        }

        boolean isFixedInData() {
            return inMemory && base == NONE && index == NONE
                    && Memory.inData(displacement, widthOfE);
        }

        boolean isRegisterJump() {
            return form == E_ALONE && (op == Op.CALL || op == Op.JMP);
        }

        /** True for one of the eight with this opcode and number, done to a register. */
        boolean isMask(Op what, int code, int mask) {
            return op == what && opcode == code && !inMemory && number == mask;
        }
    }

    /**
     * Takes apart the bytes of the image: the opcode chooses what there is, then E is read, then
     * E's digit chooses where it has to, then the number is read.
     */
    private static final class Decoder {
        private static final Op[] OPS = Op.values();

        // What the digit in E's first byte decides.
        private static final int ANY_DIGIT = 0;
        private static final int ZERO_ALONE = 1;
        private static final int OF_EIGHT = 2;
        private static final int OF_SHIFTS = 3;
        private static final int OF_SINGLES = 4;
        private static final int OF_COUNTING = 5;
        private static final int MEMORY_ALONE = 6;

        private final Image image;
        private final Instruction it;
        private int next;
        private boolean cut;
        private boolean found;
        private boolean hasE;
        private int digits;
        private int numberBytes;

        Decoder(Image image, Instruction it) {
            this.image = image;
            this.it = it;
        }

        /** How long the instruction at a place is, or 0 when there is none. */
        int decode(int place) {
            it.clear();
            if (!image.has(place)) {
                return 0;
            }
            next = place;
            cut = false;
            found = true;
            hasE = false;
            digits = ANY_DIGIT;
            numberBytes = 0;
            int code = nextByte();
            it.opcode = code;
            if (code == 0x0F) {
                chooseLong(nextByte());
            } else if (code == 0x66) {
                chooseWord(nextByte());
            } else if (code < 0x80) {
                chooseLow(code);
            } else {
                chooseHigh(code, (code & 1) == 0 ? 1 : 4);
            }
            if (hasE) {
                readE();
                chooseByDigit();
            }
            if (numberBytes > 0) {
                it.number = nextNumber(numberBytes);
            }
            if (cut || !found) {
                return 0;
            }
            it.length = next - place;
            if (it.form == TARGET) {
                it.number += Image.START + next;
            }
            return it.length;
        }

        private int nextByte() {
            if (next < 0 || next >= image.count || next >= Image.ROOM) {
                cut = true;
                return 0;
            }
            int b = image.row[next] & 0xFF;
            next++;
            return b;
        }

        /** A number of 1 or 4 bytes, with its sign. */
        private int nextNumber(int bytes) {
            int n = 0;
            for (int i = 0; i < bytes; i++) {
                n |= nextByte() << (8 * i);
            }
            return bytes == 1 ? (byte) n : n;
        }

        /** Reads E, and G or the digit with it. */
        private void readE() {
            int b = nextByte();
            int mode = b >> 6;
            it.reg = b >> 3 & 7;
            it.rm = b & 7;
            if (mode == 3) {
                return;
            }
            it.inMemory = true;
            it.base = it.rm;
            if (it.rm == 4) {
                int s = nextByte();
                int index = s >> 3 & 7;
                it.index = index == 4 ? NONE : index;
                it.scale = s >> 6;
                it.base = s & 7;
            }
            if (mode == 0 && it.base == 5) {
                it.base = NONE;
                it.displacement = nextNumber(4);
            } else if (mode != 0) {
                it.displacement = nextNumber(mode == 1 ? 1 : 4);
            }
        }

        private void chooseByDigit() {
            int digit = it.reg & 7;
            switch (digits) {
                case ZERO_ALONE:
                    found = digit == 0;
                    break;
                case OF_EIGHT:
                    it.op = OPS[digit];
                    break;
                case OF_SHIFTS:
                    it.op = OPS[8 + digit];
                    found = it.op != Op.NO_SHIFT;
                    break;
                case OF_SINGLES:
                    chooseSingle(digit);
                    break;
                case OF_COUNTING:
                    chooseCounting(digit);
                    break;
                case MEMORY_ALONE:
                    found = it.inMemory;
                    break;
                default:
                    break;
            }
        }

        /** An operation with operands that the opcode tells, and a number of so many bytes. */
        private void plain(Op op, int form, int width, int bytes) {
            it.op = op;
            it.form = form;
            it.width = width;
            it.widthOfE = width;
            numberBytes = bytes;
        }

        private void withE(Op op, int form, int width) {
            it.op = op;
            it.form = form;
            it.width = width;
            it.widthOfE = width;
            hasE = true;
        }

        /** An operation that E's digit tells. */
        private void withDigit(int which, int form, int width) {
            it.form = form;
            it.width = width;
            it.widthOfE = width;
            hasE = true;
            digits = which;
        }

        private void withRegister(Op op, int r) {
            plain(op, E_ALONE, 4, 0);
            it.rm = r;
        }

        private void chooseLow(int code) {
            int r = code & 7;
            switch (code >> 3) {
                case 8:
                    withRegister(Op.INC, r);
                    break;
                case 9:
                    withRegister(Op.DEC, r);
                    break;
                case 10:
                    withRegister(Op.PUSH, r);
                    break;
                case 11:
                    withRegister(Op.POP, r);
                    break;
                case 12:
                    found = false;
                    break;
                case 13:
                    choosePush(code);
                    break;
                case 14:
                case 15:
                    plain(Op.J, TARGET, 4, 1);
                    it.condition = code & 15;
                    break;
                default:
                    chooseEight(OPS[code >> 3 & 7], r);
                    break;
            }
        }

        private void chooseEight(Op op, int way) {
            int width = (way & 1) == 0 ? 1 : 4;
            if (way < 2) {
                withE(op, E_G, width);
            } else if (way < 4) {
                withE(op, G_E, width);
            } else if (way < 6) {
                plain(op, E_I, width, width);
            } else {
                found = false;
            }
        }

        private void choosePush(int code) {
            int bytes = code < 0x6A ? 4 : 1;
            if (code == 0x68 || code == 0x6A) {
                plain(Op.PUSH, I_ALONE, 4, bytes);
            } else if (code == 0x69 || code == 0x6B) {
                withE(Op.IMUL, G_E_I, 4);
                numberBytes = bytes;
            } else {
                found = false;
            }
        }

        private void chooseHigh(int code, int width) {
            switch (code >> 3) {
                case 16:
                    chooseGroup(code, width);
                    break;
                case 17:
                    chooseMove(code, width);
                    break;
                case 18:
                    chooseXchg(code & 7);
                    break;
                case 19:
                    plain(code == 0x98 ? Op.CWDE : Op.CDQ, NOTHING, 4, 0);
                    found = code < 0x9A;
                    break;
                case 21:
                    plain(Op.TEST, E_I, width, width);
                    found = code < 0xAA;
                    break;
                case 22:
                case 23:
                    plain(Op.MOV, E_I, code < 0xB8 ? 1 : 4, code < 0xB8 ? 1 : 4);
                    it.rm = code & 7;
                    break;
                case 24:
                    chooseShiftOrMove(code, width);
                    break;
                case 26:
                    withDigit(OF_SHIFTS, code < 0xD2 ? E_I : E_CL, width);
                    it.number = 1;
                    found = code < 0xD4;
                    hasE = found;
                    break;
                case 28:
                case 29:
                    chooseJump(code);
                    break;
                case 30:
                case 31:
                    chooseLast(code, width);
                    break;
                default:
                    found = false;
                    break;
            }
        }

        private void chooseGroup(int code, int width) {
            switch (code) {
                case 0x82:
                    found = false;
                    break;
                case 0x84:
                case 0x85:
                    withE(Op.TEST, E_G, width);
                    break;
                case 0x86:
                case 0x87:
                    withE(Op.XCHG, E_G, width);
                    break;
                default:
                    withDigit(OF_EIGHT, E_I, width);
                    numberBytes = code == 0x81 ? 4 : 1;
                    break;
            }
        }

        private void chooseMove(int code, int width) {
            switch (code) {
                case 0x88:
                case 0x89:
                    withE(Op.MOV, E_G, width);
                    break;
                case 0x8A:
                case 0x8B:
                    withE(Op.MOV, G_E, width);
                    break;
                case 0x8D:
                    withE(Op.LEA, G_E, 4);
                    digits = MEMORY_ALONE;
                    break;
                case 0x8F:
                    withE(Op.POP, E_ALONE, 4);
                    digits = ZERO_ALONE;
                    break;
                default:
                    found = false;
                    break;
            }
        }

        private void chooseXchg(int r) {
            plain(r == 0 ? Op.NOP : Op.XCHG, r == 0 ? NOTHING : E_G, 4, 0);
            it.reg = r;
        }

        private void chooseShiftOrMove(int code, int width) {
            if (code < 0xC2) {
                withDigit(OF_SHIFTS, E_I, width);
                numberBytes = 1;
            } else if (code == 0xC6 || code == 0xC7) {
                withE(Op.MOV, E_I, width);
                digits = ZERO_ALONE;
                numberBytes = width;
            } else {
                found = false;
            }
        }

        private void chooseJump(int code) {
            switch (code) {
                case 0xE2:
                    plain(Op.LOOP, TARGET, 4, 1);
                    break;
                case 0xE3:
                    plain(Op.JECXZ, TARGET, 4, 1);
                    break;
                case 0xE8:
                    plain(Op.CALL, TARGET, 4, 4);
                    break;
                case 0xE9:
                    plain(Op.JMP, TARGET, 4, 4);
                    break;
                case 0xEB:
                    plain(Op.JMP, TARGET, 4, 1);
                    break;
                default:
                    found = false;
                    break;
            }
        }

        private void chooseLast(int code, int width) {
            switch (code) {
                case 0xF4:
                    plain(Op.HLT, NOTHING, 4, 0);
                    break;
                case 0xF5:
                    plain(Op.CMC, NOTHING, 4, 0);
                    break;
                case 0xF6:
                case 0xF7:
                    withDigit(OF_SINGLES, E_ALONE, width);
                    break;
                case 0xF8:
                    plain(Op.CLC, NOTHING, 4, 0);
                    break;
                case 0xF9:
                    plain(Op.STC, NOTHING, 4, 0);
                    break;
                case 0xFE:
                case 0xFF:
                    withDigit(OF_COUNTING, E_ALONE, width);
                    break;
                default:
                    found = false;
                    break;
            }
        }

        private void chooseSingle(int digit) {
            switch (digit) {
                case 0:
                    it.op = Op.TEST;
                    it.form = E_I;
                    numberBytes = it.width;
                    break;
                case 2:
                    it.op = Op.NOT;
                    break;
                case 3:
                    it.op = Op.NEG;
                    break;
                case 4:
                    it.op = Op.MUL;
                    break;
                case 5:
                    it.op = Op.IMUL_WIDE;
                    break;
                case 6:
                    it.op = Op.DIV;
                    break;
                case 7:
                    it.op = Op.IDIV;
                    break;
                default:
                    found = false;
                    break;
            }
        }

        private void chooseCounting(int digit) {
            found = digit < 2 || it.width == 4;
            switch (digit) {
                case 0:
                    it.op = Op.INC;
                    break;
                case 1:
                    it.op = Op.DEC;
                    break;
                case 2:
                case 4:
                    it.op = digit == 2 ? Op.CALL : Op.JMP;
                    found = found && !it.inMemory;
                    break;
                case 6:
                    it.op = Op.PUSH;
                    break;
                default:
                    found = false;
                    break;
            }
        }

        /** What comes behind 0x0F. */
        private void chooseLong(int code) {
            switch (code >> 4) {
                case 1:
                    withE(Op.NOP, E_ALONE, 4);
                    digits = ZERO_ALONE;
                    hasE = code == 0x1F;
                    found = hasE;
                    break;
                case 4:
                    withE(Op.CMOV, G_E, 4);
                    it.condition = code & 15;
                    break;
                case 8:
                    plain(Op.J, TARGET, 4, 4);
                    it.condition = code & 15;
                    break;
                case 9:
                    withE(Op.SET, E_ALONE, 1);
                    it.condition = code & 15;
                    break;
                case 10:
                case 11:
                    chooseLongMore(code);
                    break;
                case 12:
                    chooseSwap(code);
                    break;
                default:
                    found = false;
                    break;
            }
        }

        private void chooseLongMore(int code) {
            switch (code) {
                case 0xA4:
                case 0xAC:
                    withE(code == 0xA4 ? Op.SHLD : Op.SHRD, E_G_I, 4);
                    numberBytes = 1;
                    break;
                case 0xAF:
                    withE(Op.IMUL, G_E, 4);
                    break;
                case 0xB1:
                    withE(Op.CMPXCHG, E_G, 4);
                    break;
                case 0xB6:
                case 0xB7:
                    withE(Op.MOVZX, G_E, 4);
                    it.widthOfE = code == 0xB6 ? 1 : 2;
                    break;
                case 0xBC:
                case 0xBD:
                    withE(code == 0xBC ? Op.BSF : Op.BSR, G_E, 4);
                    break;
                case 0xBE:
                case 0xBF:
                    withE(Op.MOVSX, G_E, 4);
                    it.widthOfE = code == 0xBE ? 1 : 2;
                    break;
                default:
                    found = false;
                    break;
            }
        }

        private void chooseSwap(int code) {
            if (code >= 0xC8) {
                withRegister(Op.BSWAP, code & 7);
            } else if (code == 0xC1) {
                withE(Op.XADD, E_G, 4);
            } else {
                found = false;
            }
        }

        /** What comes behind 0x66. */
        private void chooseWord(int code) {
            if (code == 0x89) {
                withE(Op.MOV, E_G, 2);
            } else if (code == 0x8B) {
                withE(Op.MOV, G_E, 2);
            } else if (code == 0x90) {
                plain(Op.NOP, NOTHING, 4, 0);
            } else {
                found = false;
            }
        }
    }

    /** Looks an image through, and keeps what it found. */
    private static final class Inspector {
        private static final int FENCE = 6;
        private static final int FENCES = 2 * FENCE;

        // What is to be known of an instruction that begins at a place.
        private static final int WRITES_STACK_POINTER = 1;
        private static final int WRITES_MEMORY = 2;
        private static final int NEAR = 4;
        private static final int FIXED_IN_DATA = 8;
        private static final int JUMP_MASK = 16;
        private static final int REGISTER_JUMP = 32;
        private static final int AND_FENCE = 64;
        private static final int OR_FENCE = 128;
        private static final int GOES = 256;
        private static final int ENDS = 512;

        private final Image image;
        private final Decoder decoder;
        private final Instruction it;
        private final int[] lengths = new int[Image.ROOM];
        private final int[] traits = new int[Image.ROOM];
        private final int[] registers = new int[Image.ROOM];
        private final int[] targets = new int[Image.ROOM];
        private final int[] marks = new int[Image.ROOM];
        private int instructions;
        boolean valid;
        int met;
        int metAt = NONE;

        Inspector(Image image, Decoder decoder, Instruction it) {
            this.image = image;
            this.decoder = decoder;
            this.it = it;
        }

        void forget() {
            valid = false;
            met = 0;
            metAt = NONE;
        }

        int markAt(int place) {
            return place >= 0 && place < Image.ROOM ? marks[place] : 0;
        }

        /** How many instructions the image has, or NONE when there is a fault. */
        int inspect() {
            forget();
            instructions = 0;
            for (int p = 0; p < Image.ROOM; p++) {
                marks[p] = 0;
                lengths[p] = decoder.decode(p);
                traits[p] = lengths[p] == 0 ? 0 : traitsOfIt();
                registers[p] = it.inMemory ? it.base : it.rm;
                targets[p] = it.number;
            }
            int last = markUnits();
            checkTargets();
            checkEnd(last);
            valid = met == 0;
            return valid ? instructions : NONE;
        }

        private int traitsOfIt() {
            int t = it.writesStackPointer() ? WRITES_STACK_POINTER : 0;
            t |= it.writesMemory() ? WRITES_MEMORY : 0;
            t |= it.isNear() ? NEAR : 0;
            t |= it.isFixedInData() ? FIXED_IN_DATA : 0;
            t |= it.isMask(Op.AND, 0x83, -BUNDLE) ? JUMP_MASK : 0;
            t |= it.isRegisterJump() ? REGISTER_JUMP : 0;
            t |= it.isMask(Op.AND, 0x81, 0xFFFF) ? AND_FENCE : 0;
            t |= it.isMask(Op.OR, 0x81, 0x10000) ? OR_FENCE : 0;
            t |= it.form == TARGET ? GOES : 0;
            t |= it.op == Op.HLT || it.op == Op.JMP ? ENDS : 0;
            return t;
        }

        private boolean is(int place, int trait) {
            return place >= 0 && place < Image.ROOM && (traits[place] & trait) != 0;
        }

        private boolean isOf(int place, int trait, int register) {
            return place >= 0 && place < Image.ROOM
                    && (traits[place] & trait) != 0 && registers[place] == register;
        }

        private int lengthAt(int place) {
            return place >= 0 && place < Image.ROOM ? lengths[place] : 0;
        }

        private int registerAt(int place) {
            return place >= 0 && place < Image.ROOM ? registers[place] : NONE;
        }

        private void mark(int place, int as) {
            if (place >= 0 && place < Image.ROOM) {
                marks[place] = as;
                instructions++;
            }
        }

        /** Keeps a fault; the length of a unit that has one is 0. */
        private int refuse(int fault, int place) {
            met = fault;
            metAt = place;
            return 0;
        }

        private static boolean leavesBundle(int place, int length) {
            return (place & (BUNDLE - 1)) + length > BUNDLE;
        }

        /** Marks unit behind unit; answers where the last one begins. */
        private int markUnits() {
            if (image.count == 0 || image.count % BUNDLE != 0) {
                return refuse(1, 0);
            }
            int last = 0;
            int length = 0;
            for (int p = 0; p < image.count && met == 0; p += Math.max(1, length)) {
                last = p;
                length = markUnit(p);
            }
            return last;
        }

        /** How long the unit at a place is, or 0 when there is a fault. */
        private int markUnit(int p) {
            int n = lengthAt(p);
            if (n == 0) {
                return refuse(2, p);
            }
            if (leavesBundle(p, n)) {
                return refuse(3, p);
            }
            mark(p, 1);
            if (is(p, WRITES_STACK_POINTER)) {
                return markStackUnit(p, n);
            }
            if (is(p, JUMP_MASK)) {
                return markJumpUnit(p, n);
            }
            if (is(p, AND_FENCE)) {
                return markWriteUnit(p);
            }
            return checkAlone(p, n);
        }

        private int markStackUnit(int p, int n) {
            boolean fenced = !is(p, WRITES_MEMORY) && !leavesBundle(p, n + FENCES)
                    && hasFences(p + n, ESP);
            if (!fenced) {
                return refuse(6, p);
            }
            mark(p + n, 2);
            mark(p + n + FENCE, 2);
            return n + FENCES;
        }

        /** True if the and and the or that keep a register in DATA stand at a place. */
        private boolean hasFences(int p, int r) {
            return isOf(p, AND_FENCE, r) && isOf(p + FENCE, OR_FENCE, r);
        }

        private int markJumpUnit(int p, int n) {
            int behind = p + n;
            int more = lengthAt(behind);
            if (!isOf(behind, REGISTER_JUMP, registerAt(p)) || leavesBundle(p, n + more)) {
                return n;
            }
            mark(behind, 2);
            return n + more;
        }

        private int markWriteUnit(int p) {
            int r = registerAt(p);
            int behind = p + FENCES;
            int more = lengthAt(behind);
            boolean writes = is(behind, WRITES_MEMORY) && isOf(behind, NEAR, r)
                    && !is(behind, WRITES_STACK_POINTER);
            if (!writes || !hasFences(p, r) || leavesBundle(p, FENCES + more)) {
                return FENCE;
            }
            mark(p + FENCE, 2);
            mark(behind, 2);
            return FENCES + more;
        }

        private int checkAlone(int p, int n) {
            if (is(p, REGISTER_JUMP)) {
                return refuse(4, p);
            }
            if (is(p, WRITES_MEMORY) && !isOf(p, NEAR, ESP) && !is(p, FIXED_IN_DATA)) {
                return refuse(5, p);
            }
            return n;
        }

        private void checkTargets() {
            for (int p = 0; p < Image.ROOM && met == 0; p++) {
                if (marks[p] != 0 && is(p, GOES) && !isEntry(targets[p])) {
                    refuse(7, p);
                }
            }
        }

        private boolean isEntry(int address) {
            return gateAt(address) != NONE || markAt(address - Image.START) == 1;
        }

        private void checkEnd(int last) {
            int end = last;
            for (int p = last; p < image.count; p++) {
                if (markAt(p) != 0) {
                    end = p;
                }
            }
            if (met == 0 && !is(end, ENDS)) {
                refuse(8, last);
            }
        }

        /** True unless the image is known to be VALID without an instruction at this place. */
        boolean permits(int place) {
            return !valid || markAt(place) != 0;
        }
    }

    /** Makes the texts of instructions. */
    private static final class Teller {
        private static final String LONGS = "eaxecxedxebxespebpesiedi";
        private static final String WORDS = "axcxdxbxspbpsidi";
        private static final String BYTES = "alcldlblahchdhbh";
        private static final String CONDITIONS = "o nob aee nebea s nsp npl geleg ";

        private final Instruction it;
        private final StringBuilder made = new StringBuilder();

        Teller(Instruction it) {
            this.it = it;
        }

        /** Puts the text of the instruction together; answers its length. */
        int compose() {
            made.setLength(0);
            made.append(it.op.word);
            if (it.op == Op.J || it.op == Op.SET || it.op == Op.CMOV) {
                addCondition();
            }
            if (it.form != NOTHING) {
                made.append(' ');
                addOperands();
            }
            return made.length();
        }

        long eightFrom(int i) {
            long eight = 0;
            for (int k = 7; k >= 0; k--) {
                long at = (long) i + k;
                boolean has = at >= 0 && at < made.length();
                eight = eight << 8 | (has ? made.charAt((int) at) : 0);
            }
            return eight;
        }

        private void addCondition() {
            int at = 2 * (it.condition & 15);
            made.append(CONDITIONS.charAt(at));
            if (CONDITIONS.charAt(at + 1) != ' ') {
                made.append(CONDITIONS.charAt(at + 1));
            }
        }

        private void addOperands() {
            switch (it.form) {
                case E_G:
                    addE();
                    made.append(',');
                    addRegister(it.reg, it.width);
                    break;
                case G_E:
                    addRegister(it.reg, it.width);
                    made.append(',');
                    addE();
                    break;
                case E_I:
                    addE();
                    addLastNumber();
                    break;
                case E_CL:
                    addE();
                    made.append(",cl");
                    break;
                case E_ALONE:
                    addE();
                    break;
                case G_E_I:
                    addRegister(it.reg, it.width);
                    made.append(',');
                    addE();
                    addLastNumber();
                    break;
                case E_G_I:
                    addE();
                    made.append(',');
                    addRegister(it.reg, it.width);
                    addLastNumber();
                    break;
                case TARGET:
                    addUnsigned(it.number);
                    break;
                default:
                    made.append(it.number);
                    break;
            }
        }

        private void addLastNumber() {
            made.append(',').append(it.number);
        }

        private void addUnsigned(int number) {
            long n = unsigned(number);
            if (n >= 10) {
                made.append((int) (n / 10));
            }
            made.append((int) (n % 10));
        }

        private void addRegister(int r, int width) {
            int k = r & 7;
            if (width == 4) {
                made.append(LONGS.substring(3 * k, 3 * k + 3));
            } else {
                String names = width == 2 ? WORDS : BYTES;
                made.append(names.substring(2 * k, 2 * k + 2));
            }
        }

        private void addE() {
            if (!it.inMemory) {
                addRegister(it.rm, it.widthOfE);
                return;
            }
            made.append(it.widthOfE == 1 ? 'b' : it.widthOfE == 2 ? 'w' : 'd');
            made.append('[');
            addAddress();
            made.append(']');
        }

        private void addAddress() {
            if (it.base != NONE) {
                addRegister(it.base, 4);
            }
            if (it.index != NONE) {
                if (it.base != NONE) {
                    made.append('+');
                }
                addRegister(it.index, 4);
                made.append('*').append(1 << (it.scale & 3));
            }
            boolean first = it.base == NONE && it.index == NONE;
            if (!first && it.displacement > 0) {
                made.append('+');
            }
            if (first || it.displacement != 0) {
                made.append(it.displacement);
            }
        }
    }

    /** DATA and the image as a program sees them; keeps why a step can't be done. */
    private static final class Memory {
        private static final int DATA_START = 0x10000;
        private static final int DATA_SIZE = 0x10000;
        private static final int DATA_END = DATA_START + DATA_SIZE;
        private static final int MARGINS_START = 0xF000;
        private static final int MARGINS_END = 0x21000;

        private final Image image;
        private final byte[] data = new byte[DATA_SIZE];
        /** The state that the step in hand ends in, or 0 as long as it can be done. */
        int trouble;

        Memory(Image image) {
            this.image = image;
        }

        private static boolean isWithin(int address, long count, int start, int end) {
            long from = address & 0xFFFFFFFFL;
            return from >= start && from + count <= end;
        }

        static boolean inData(int address, long count) {
            return isWithin(address, count, DATA_START, DATA_END);
        }

        boolean inImage(int address, long count) {
            return isWithin(address, count, Image.START, Image.START + image.count);
        }

        int dataAt(int address) {
            return data[address & (DATA_SIZE - 1)] & 0xFF;
        }

        void setData(int address, int v) {
            data[address & (DATA_SIZE - 1)] = (byte) v;
        }

        /** Only the first trouble of a step counts. */
        void fail(int state) {
            if (trouble == 0) {
                trouble = state;
            }
        }

        int load(int address, int width) {
            boolean ofData = isWithin(address, width, DATA_START, DATA_END);
            if (!ofData && !isWithin(address, width, Image.START, Image.START + image.count)) {
                fail(FENCED);
                return 0;
            }
            byte[] row = ofData ? data : image.row;
            int start = address - (ofData ? DATA_START : Image.START);
            int v = 0;
            for (int k = start + width - 1; k >= start; k--) {
                v = v << 8 | (k >= 0 && k < row.length ? row[k] & 0xFF : 0);
            }
            return v;
        }

        void store(int address, int width, int v) {
            if (!isWithin(address, width, DATA_START, DATA_END)) {
                boolean near = isWithin(address, width, MARGINS_START, MARGINS_END);
                fail(near ? FENCED : ESCAPED);
            }
            if (trouble != 0) {
                return;
            }
            for (int i = 0; i < width; i++) {
                setData(address + i, v >>> (8 * i));
            }
        }
    }

    /** Reckons, and keeps the flags. */
    private static final class Flags {
        private static final int CF = 1;
        private static final int PF = 4;
        private static final int ZF = 64;
        private static final int SF = 128;
        private static final int OF = 2048;

        int bits;

        boolean has(int flag) {
            return (bits & flag) != 0;
        }

        void set(int flag, boolean is) {
            bits = is ? bits | flag : bits & ~flag;
        }

        boolean holds(int condition) {
            boolean is;
            switch (condition >> 1 & 7) {
                case 0:
                    is = has(OF);
                    break;
                case 1:
                    is = has(CF);
                    break;
                case 2:
                    is = has(ZF);
                    break;
                case 3:
                    is = has(CF) || has(ZF);
                    break;
                case 4:
                    is = has(SF);
                    break;
                case 5:
                    is = has(PF);
                    break;
                case 6:
                    is = has(SF) != has(OF);
                    break;
                default:
                    is = has(ZF) || has(SF) != has(OF);
                    break;
            }
            return is == ((condition & 1) == 0);
        }

        /** A result has no bits beyond its width. */
        void tellResult(int r, int width) {
            int told = r == 0 ? ZF : 0;
            told |= (r & topOf(width)) != 0 ? SF : 0;
            told |= (Integer.bitCount(r & 0xFF) & 1) == 0 ? PF : 0;
            bits = bits & ~(ZF | SF | PF) | told;
        }

        void tellCarry(boolean carry, boolean overflow) {
            bits = bits & ~(CF | OF) | (carry ? CF : 0) | (overflow ? OF : 0);
        }

        int two(Op op, int a, int b, int width) {
            int carry = has(CF) ? 1 : 0;
            switch (op) {
                case ADD:
                    return add(a, b, 0, width);
                case ADC:
                    return add(a, b, carry, width);
                case SUB:
                case CMP:
                    return subtract(a, b, 0, width);
                case SBB:
                    return subtract(a, b, carry, width);
                case OR:
                    return bitwise(a | b, width);
                case XOR:
                    return bitwise(a ^ b, width);
                default:
                    return bitwise(a & b, width);
            }
        }

        int add(int a, int b, int carry, int width) {
            int mask = maskOf(width);
            long sum = unsigned(a & mask) + unsigned(b & mask) + carry;
            int r = (int) sum & mask;
            tellResult(r, width);
            tellCarry(sum > unsigned(mask), ((a ^ r) & (b ^ r) & topOf(width)) != 0);
            return r;
        }

        int subtract(int a, int b, int borrow, int width) {
            int mask = maskOf(width);
            long rest = unsigned(a & mask) - unsigned(b & mask) - borrow;
            int r = (int) rest & mask;
            tellResult(r, width);
            tellCarry(rest < 0, ((a ^ b) & (a ^ r) & topOf(width)) != 0);
            return r;
        }

        private int bitwise(int r, int width) {
            tellResult(r, width);
            tellCarry(false, false);
            return r;
        }

        int single(Op op, int a, int width) {
            boolean carry = has(CF);
            int r;
            switch (op) {
                case INC:
                    r = add(a, 1, 0, width);
                    set(CF, carry);
                    return r;
                case DEC:
                    r = subtract(a, 1, 0, width);
                    set(CF, carry);
                    return r;
                case NEG:
                    return subtract(0, a, 0, width);
                default:
                    return ~a & maskOf(width);
            }
        }

        int shift(Op op, int a, int times, int width) {
            int v = a;
            for (int i = 0; i < times && i < 32; i++) {
                v = op == Op.ROL || op == Op.RCL || op == Op.SHL
                        ? shiftLeft(op, v, width) : shiftRight(op, v, width);
            }
            if (op == Op.SHL || op == Op.SHR || op == Op.SAR) {
                tellResult(v, width);
            }
            return v;
        }

        private int shiftLeft(Op op, int v, int width) {
            int top = topOf(width);
            boolean out = (v & top) != 0;
            boolean in = op == Op.ROL ? out : op == Op.RCL && has(CF);
            int r = (v << 1 | (in ? 1 : 0)) & maskOf(width);
            tellCarry(out, (r & top) != 0 != out);
            return r;
        }

        private int shiftRight(Op op, int v, int width) {
            int top = topOf(width);
            boolean high = (v & top) != 0;
            boolean out = (v & 1) != 0;
            boolean in = false;
            boolean overflow;
            if (op == Op.ROR) {
                in = out;
            } else if (op == Op.RCR) {
                in = has(CF);
            } else if (op == Op.SAR) {
                in = high;
            }
            int r = v >>> 1 | (in ? top : 0);
            if (op == Op.SHR) {
                overflow = high;
            } else {
                overflow = op != Op.SAR && in != high;
            }
            tellCarry(out, overflow);
            return r;
        }

        /** Shifts a LONG by 1 to 31, and brings in the bits of another one. */
        int shiftDouble(Op op, int a, int g, int times) {
            boolean left = op == Op.SHLD;
            int r = left ? a << times | g >>> (32 - times) : a >>> times | g << (32 - times);
            int out = left ? a >>> (32 - times) : a >>> (times - 1);
            tellResult(r, 4);
            tellCarry((out & 1) != 0, (a ^ r) < 0);
            return r;
        }
    }

    /** What the services work on. */
    private static final class Host {
        static final int INPUT_ROOM = 256;
        private static final int OUTPUT_ROOM = 1024;
        private static final int BAD_ADDRESS = -14;
        private static final int NO_SERVICE = -38;
        private static final int FIRST_BREAK = 0x10000;

        private final Memory memory;
        private final byte[] output = new byte[OUTPUT_ROOM];
        private final byte[] input = new byte[INPUT_ROOM];
        private int head;
        int written;
        int waiting;
        int dataBreak = FIRST_BREAK;
        int seed;

        Host(Memory memory) {
            this.memory = memory;
        }

        void restart() {
            written = 0;
            dataBreak = FIRST_BREAK;
            seed = 0;
        }

        int outputAt(int i) {
            return i >= 0 && i < written && i < OUTPUT_ROOM ? output[i] & 0xFF : NONE;
        }

        void take(int n, long bytes) {
            for (int i = 0; i < n && waiting < INPUT_ROOM; i++) {
                input[(head + waiting) & (INPUT_ROOM - 1)] = (byte) (bytes >>> (8 * i));
                waiting++;
            }
        }

        /** The answer of service k; address and count are ebx and ecx. */
        int serve(int k, int address, int count, long done) {
            switch (k) {
                case 1:
                case 2:
                case 6:
                    return serveBytes(k, address, count);
                case 3:
                    return (int) done;
                case 4:
                    if (Memory.inData(address, 1)) {
                        dataBreak = address;
                    }
                    return dataBreak;
                case 5:
                    seed = seed * 1103515245 + 12345;
                    return seed >>> 16 & 0x7FFF;
                case 7:
                    return 0;
                default:
                    return NO_SERVICE;
            }
        }

        private int serveBytes(int k, int address, int count) {
            if (count == 0) {
                return 0;
            }
            if (!Memory.inData(address, unsigned(count))) {
                return BAD_ADDRESS;
            }
            if (k == 1) {
                return writeOut(address, count);
            }
            return k == 2 ? readIn(address, count) : sum(address, count);
        }

        private int writeOut(int address, int count) {
            int n = Math.min(count, OUTPUT_ROOM - written);
            for (int i = 0; i < n && written < OUTPUT_ROOM; i++) {
                output[written] = (byte) memory.dataAt(address + i);
                written++;
            }
            return n;
        }

        private int readIn(int address, int count) {
            int n = Math.min(count, waiting);
            for (int i = 0; i < n; i++) {
                memory.setData(address + i, input[head & (INPUT_ROOM - 1)] & 0xFF);
                head = (head + 1) & (INPUT_ROOM - 1);
                waiting--;
            }
            return n;
        }

        private int sum(int address, int count) {
            int s = 0;
            for (int i = 0; i < count; i++) {
                s = 31 * s + memory.dataAt(address + i);
            }
            return s;
        }
    }

    /** Runs the image, a step at a time. */
    private static final class Machine {
        private final Inspector inspector;
        private final Decoder decoder;
        private final Instruction it;
        private final Memory memory;
        private final Host host;
        final Flags flags = new Flags();
        final int[] registers = new int[8];
        final int[] passes = new int[Image.ROOM];
        private final int[] kept = new int[8];
        private int keptFlags;
        int state;
        int eip;
        int leftWith;
        long done;
        /** The address of E, and that of the next instruction, in the step in hand. */
        private int where;
        private int follower;

        Machine(Inspector inspector, Decoder decoder, Instruction it, Memory memory, Host host) {
            this.inspector = inspector;
            this.decoder = decoder;
            this.it = it;
            this.memory = memory;
            this.host = host;
            restart();
        }

        void restart() {
            for (int i = 0; i < 8; i++) {
                registers[i] = 0;
            }
            registers[ESP] = 0x20000;
            eip = Image.START;
            flags.bits = 0;
            leftWith = 0;
            done = 0;
            for (int i = 0; i < Image.ROOM; i++) {
                passes[i] = 0;
            }
        }

        /** A pause and a breakpoint do not hold a run up for ever. */
        void wake() {
            if (state == PAUSED || state == AT_BREAKPOINT) {
                state = GOES_ON;
            }
        }

        /** True if a step was done; else the state tells why none was. */
        boolean step() {
            memory.trouble = 0;
            int gate = gateAt(eip);
            if (gate != NONE) {
                doService(gate);
            } else if (isReady()) {
                execute();
                settle();
            }
            if (memory.trouble != 0) {
                state = memory.trouble;
                return false;
            }
            done++;
            return true;
        }

        private void doService(int k) {
            if (k == 0) {
                leftWith = registers[EBX];
                state = LEFT;
                return;
            }
            int back = memory.load(registers[ESP], 4);
            if (memory.trouble != 0) {
                return;
            }
            registers[EAX] = host.serve(k, registers[EBX], registers[ECX], done);
            registers[ESP] += 4;
            eip = back & -BUNDLE;
            if (k == 7) {
                state = PAUSED;
            }
        }

        /** Takes the instruction at EIP apart, if one may be done there, and keeps what it may change. */
        private boolean isReady() {
            int place = eip - Image.START;
            if (!memory.inImage(eip, 1)) {
                memory.fail(FENCED);
                return false;
            }
            if (decoder.decode(place) == 0 || !inspector.permits(place)) {
                memory.fail(ESCAPED);
                return false;
            }
            System.arraycopy(registers, 0, kept, 0, 8);
            keptFlags = flags.bits;
            follower = eip + it.length;
            where = addressOfE();
            return true;
        }

        /** What could not be done to its end is taken back as a whole. */
        private void settle() {
            if (memory.trouble != 0) {
                System.arraycopy(kept, 0, registers, 0, 8);
                flags.bits = keptFlags;
                return;
            }
            int place = eip - Image.START;
            if (place >= 0 && place < Image.ROOM) {
                passes[place]++;
            }
            eip = follower;
        }

        private int addressOfE() {
            int address = it.displacement;
            if (it.base != NONE) {
                address += registers[it.base & 7];
            }
            if (it.index != NONE) {
                address += registers[it.index & 7] << (it.scale & 3);
            }
            return address;
        }

        private void execute() {
            switch (it.op.kind) {
                case ARITHMETIC:
                    doArithmetic();
                    break;
                case SINGLE:
                    writeE(flags.single(it.op, readE(), it.width));
                    break;
                case SHIFT:
                case DOUBLE_SHIFT:
                    doShift();
                    break;
                case PRODUCT:
                    doProduct();
                    break;
                case QUOTIENT:
                    doQuotient();
                    break;
                case MOVE:
                    doMove();
                    break;
                case REARRANGE:
                    doRearrange();
                    break;
                case EXCHANGE:
                    doExchange();
                    break;
                case STACK:
                    doStack();
                    break;
                case JUMP:
                    doJump();
                    break;
                default:
                    doRest();
                    break;
            }
        }

        private int part(int r, int width) {
            if (width == 1) {
                return registers[r & 3] >>> (r < 4 ? 0 : 8) & 0xFF;
            }
            return width == 2 ? registers[r & 7] & 0xFFFF : registers[r & 7];
        }

        private void setPart(int r, int width, int v) {
            int k = width == 1 ? r & 3 : r & 7;
            int up = width == 1 && r >= 4 ? 8 : 0;
            int mask = width == 1 ? 0xFF << up : width == 2 ? 0xFFFF : -1;
            registers[k] = registers[k] & ~mask | v << up & mask;
        }

        private int readE() {
            return it.inMemory ? memory.load(where, it.widthOfE) : part(it.rm, it.widthOfE);
        }

        private void writeE(int v) {
            if (it.inMemory) {
                memory.store(where, it.widthOfE, v);
            } else {
                setPart(it.rm, it.widthOfE, v);
            }
        }

        private int readG() {
            return part(it.reg, it.width);
        }

        private void writeG(int v) {
            setPart(it.reg, it.width, v);
        }

        private int readSecond() {
            if (it.form == E_I) {
                return it.number & maskOf(it.width);
            }
            return it.startsWithG() ? readE() : readG();
        }

        private void writeFirst(int v) {
            if (it.startsWithG()) {
                writeG(v);
            } else {
                writeE(v);
            }
        }

        private void doArithmetic() {
            int a = it.startsWithG() ? readG() : readE();
            int r = flags.two(it.op, a, readSecond(), it.width);
            if (it.op.writes != 0) {
                writeFirst(r);
            }
        }

        private void doShift() {
            int times = (it.form == E_CL ? registers[ECX] : it.number) & 31;
            int a = readE();
            if (times == 0) {
                return;
            }
            if (it.op.kind == SHIFT) {
                writeE(flags.shift(it.op, a, times, it.width));
            } else {
                writeE(flags.shiftDouble(it.op, a, readG(), times));
            }
        }

        private void doProduct() {
            int e = readE();
            if (it.op == Op.IMUL) {
                long by = it.form == G_E_I ? it.number : readG();
                long p = e * by;
                boolean beyond = p != (int) p;
                flags.tellResult((int) p, 4);
                flags.tellCarry(beyond, beyond);
                writeG((int) p);
            } else if (it.width == 1) {
                multiplyByte(e);
            } else {
                multiplyLong(e);
            }
        }

        private void multiplyByte(int e) {
            boolean signs = it.op == Op.IMUL_WIDE;
            int a = part(EAX, 1);
            int p = signs ? (byte) a * (byte) e : a * e;
            boolean beyond = signs ? p != (byte) p : p > 0xFF;
            flags.tellResult(p & 0xFF, 1);
            flags.tellCarry(beyond, beyond);
            setPart(EAX, 2, p);
        }

        private void multiplyLong(int e) {
            boolean signs = it.op == Op.IMUL_WIDE;
            int a = registers[EAX];
            long p = signs ? (long) a * e : unsigned(a) * unsigned(e);
            boolean beyond = signs ? p != (int) p : p >>> 32 != 0;
            flags.tellResult((int) p, 4);
            flags.tellCarry(beyond, beyond);
            registers[EAX] = (int) p;
            registers[EDX] = (int) (p >>> 32);
        }

        private void doQuotient() {
            int e = readE();
            if (e == 0) {
                memory.fail(TRAPPED);
            } else if (it.width == 1) {
                divideByte(e);
            } else if (it.op == Op.DIV) {
                divideLong(unsigned(e));
            } else {
                divideLongWithSign(e);
            }
        }

        private void divideByte(int e) {
            boolean signs = it.op == Op.IDIV;
            int d = signs ? (byte) e : e;
            if (d == 0) {
                memory.fail(TRAPPED);
                return;
            }
            int a = signs ? (short) registers[EAX] : registers[EAX] & 0xFFFF;
            int q = a / d;
            if (signs ? q != (byte) q : q > 0xFF) {
                memory.fail(TRAPPED);
                return;
            }
            setPart(EAX, 2, (q & 0xFF) | (a % d & 0xFF) << 8);
        }

        /** Bit by bit, since edx and eax together may be more than a long with sign holds. */
        private void divideLong(long d) {
            long rest = unsigned(registers[EDX]);
            if (rest >= d) {
                memory.fail(TRAPPED);
                return;
            }
            int q = 0;
            for (int i = 31; i >= 0; i--) {
                rest = rest << 1 | (registers[EAX] >>> i & 1);
                if (rest >= d) {
                    rest -= d;
                    q |= 1 << i;
                }
            }
            registers[EAX] = q;
            registers[EDX] = (int) rest;
        }

        private void divideLongWithSign(int e) {
            if (e == 0) {
                memory.fail(TRAPPED);
                return;
            }
            long a = (long) registers[EDX] << 32 | unsigned(registers[EAX]);
            long q = a / e;
            if (q != (int) q) {
                memory.fail(TRAPPED);
                return;
            }
            registers[EAX] = (int) q;
            registers[EDX] = (int) (a % e);
        }

        private void doMove() {
            switch (it.op) {
                case MOV:
                    writeFirst(readSecond());
                    break;
                case MOVZX:
                    writeG(readE());
                    break;
                case MOVSX:
                    writeG(withSign(readE(), it.widthOfE));
                    break;
                case LEA:
                    writeG(where);
                    break;
                case CMOV:
                    int v = readE();
                    if (flags.holds(it.condition)) {
                        writeG(v);
                    }
                    break;
                default:
                    writeE(flags.holds(it.condition) ? 1 : 0);
                    break;
            }
        }

        private void doRearrange() {
            switch (it.op) {
                case BSF:
                case BSR:
                    scanBits(readE());
                    break;
                case BSWAP:
                    writeE(Integer.reverseBytes(readE()));
                    break;
                case CWDE:
                    registers[EAX] = (short) registers[EAX];
                    break;
                default:
                    registers[EDX] = registers[EAX] >> 31;
                    break;
            }
        }

        private void scanBits(int e) {
            flags.set(Flags.ZF, e == 0);
            if (e == 0) {
                return;
            }
            boolean lowest = it.op == Op.BSF;
            writeG(lowest ? Integer.numberOfTrailingZeros(e) : 31 - Integer.numberOfLeadingZeros(e));
        }

        private void doExchange() {
            int e = readE();
            int g = readG();
            switch (it.op) {
                case XCHG:
                    writeG(e);
                    writeE(g);
                    break;
                case XADD:
                    writeG(e);
                    writeE(flags.add(e, g, 0, 4));
                    break;
                default:
                    flags.subtract(registers[EAX], e, 0, 4);
                    if (registers[EAX] == e) {
                        writeE(g);
                    } else {
                        registers[EAX] = e;
                    }
                    break;
            }
        }

        private void push(int v) {
            registers[ESP] -= 4;
            memory.store(registers[ESP], 4, v);
        }

        private void doStack() {
            switch (it.op) {
                case PUSH:
                    push(it.form == I_ALONE ? it.number : readE());
                    break;
                case POP:
                    int v = memory.load(registers[ESP], 4);
                    registers[ESP] += 4;
                    where = addressOfE();
                    writeE(v);
                    break;
                default:
                    int target = it.form == TARGET ? it.number : readE();
                    push(follower);
                    follower = target;
                    break;
            }
        }

        private void doJump() {
            boolean goes = true;
            if (it.op == Op.J) {
                goes = flags.holds(it.condition);
            } else if (it.op == Op.LOOP) {
                registers[ECX]--;
                goes = registers[ECX] != 0;
            } else if (it.op == Op.JECXZ) {
                goes = registers[ECX] == 0;
            }
            if (goes) {
                follower = it.form == TARGET ? it.number : readE();
            }
        }

        private void doRest() {
            switch (it.op) {
                case HLT:
                    state = HALTED;
                    break;
                case CMC:
                    flags.set(Flags.CF, !flags.has(Flags.CF));
                    break;
                case CLC:
                    flags.set(Flags.CF, false);
                    break;
                case STC:
                    flags.set(Flags.CF, true);
                    break;
                default:
                    break;
            }
        }
    }
}
