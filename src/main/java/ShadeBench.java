/**
 * A bench on which programs of a small machine run with a shade under every bit, which tells whether the bit was ever
 * set. The document's promises are kept by the classes inside; this one holds the tape and answers the calls.
 */
public final class ShadeBench {
    /** There is none. */
    public static final int NONE = -1;

    private static final int TAPE_LIMIT = 4000;
    private static final int FED_AT_ONCE = 20;
    private static final int STEPS_A_RUN = 20000;
    private static final int STEPS_A_BENCH = 200000;

    private final int[] tape;
    private int tapeLength;
    private final Assembler assembler;
    private Program program;
    private Program spare;
    private boolean loaded;
    private final Machine machine;
    private final Machine shadow;
    private int stepsLeft;

    public ShadeBench() {
        tape = new int[TAPE_LIMIT];
        assembler = new Assembler();
        program = new Program();
        spare = new Program();
        machine = new Machine();
        shadow = new Machine();
        stepsLeft = STEPS_A_BENCH;
    }

    public int feed(int a, int b, int c, int d, int e) {
        if (tapeLength + FED_AT_ONCE > TAPE_LIMIT) {
            return NONE;
        }
        layOnTape(a);
        layOnTape(b);
        layOnTape(c);
        layOnTape(d);
        layOnTape(e);
        return tapeLength;
    }

    private void layOnTape(int word) {
        for (int shift = 24; shift >= 0; shift -= 8) {
            tape[tapeLength] = (word >>> shift) & 255;
            tapeLength++;
        }
    }

    public int end(int n) {
        if (n < 0 || n > tapeLength) {
            return NONE;
        }
        tapeLength = n;
        return n;
    }

    public int assemble() {
        int length = tapeLength;
        tapeLength = 0;
        // The spare one takes the text, so that the program before stays whole if there is a fault.
        if (!assembler.translate(tape, length, spare)) {
            return NONE;
        }
        Program before = program;
        program = spare;
        spare = before;
        loaded = true;
        machine.ledger.dropSuppressions();
        machine.restart(program, 0, false);
        return program.count;
    }

    public int fault(int what) {
        switch (what) {
            case 0:
                return assembler.fault;
            case 1:
                return assembler.faultPlace;
            case 2:
                return assembler.faultLine;
            default:
                return NONE;
        }
    }

    public boolean begin(int filling, int mode) {
        if (!loaded || mode < 0 || mode > 1) {
            return false;
        }
        machine.restart(program, filling, mode == 1);
        return true;
    }

    public int input(int v) {
        return loaded ? program.addInput(v) : NONE;
    }

    public int suppress(int kind, int from, int to) {
        return loaded ? machine.ledger.addSuppression(kind, from, to) : NONE;
    }

    public int run(int n) {
        if (!loaded || n < 0 || n > STEPS_A_RUN) {
            return NONE;
        }
        int made = machine.advance(Math.min(n, stepsLeft));
        stepsLeft -= made;
        return made;
    }

    public int state(int what) {
        return loaded ? machine.tell(what) : NONE;
    }

    public int register(int r, int what) {
        if (!loaded || r < 0 || r >= Machine.REGISTERS) {
            return NONE;
        }
        return machine.registers[r].tell(what);
    }

    public int memory(int a, int what) {
        return loaded ? machine.memory.tell(a, what) : NONE;
    }

    public int report(int k, int what) {
        return loaded ? machine.ledger.tell(k, what) : NONE;
    }

    public int output(int k) {
        return loaded ? machine.outputAt(k) : NONE;
    }

    public int block(int n, int what) {
        return loaded ? machine.tellBlock(n, what) : NONE;
    }

    public int twin(int filling) {
        if (!loaded) {
            return NONE;
        }
        shadow.restart(program, filling, machine.fine);
        stepsLeft -= shadow.advance(Math.min(machine.steps, stepsLeft));
        return shadow.mark;
    }

    /** The instructions, in the document's order: Machine tells groups of them apart by it. */
    private static final class Op {
        static final int LI = 0;
        static final int MV = 1;
        static final int NOT = 2;
        static final int NEG = 3;
        static final int ADD = 4;
        static final int SUB = 5;
        static final int MUL = 6;
        static final int DIV = 7;
        static final int REM = 8;
        static final int AND = 9;
        static final int OR = 10;
        static final int XOR = 11;
        static final int SHL = 12;
        static final int SHR = 13;
        static final int SAR = 14;
        static final int EQ = 15;
        static final int NE = 16;
        static final int LT = 17;
        static final int LTU = 18;
        static final int SXB = 19;
        static final int SXH = 20;
        static final int LB = 21;
        static final int LBU = 22;
        static final int LH = 23;
        static final int LHU = 24;
        static final int LW = 25;
        static final int SB = 26;
        static final int SH = 27;
        static final int SW = 28;
        static final int BEQ = 29;
        static final int BNE = 30;
        static final int BLT = 31;
        static final int BGE = 32;
        static final int BLTU = 33;
        static final int BGEU = 34;
        static final int JMP = 35;
        static final int CALL = 36;
        static final int RET = 37;
        static final int HALT = 38;
        static final int PUSH = 39;
        static final int POP = 40;
        static final int NEW = 41;
        static final int ZERO = 42;
        static final int GROW = 43;
        static final int FREE = 44;
        static final int COPY = 45;
        static final int FILL = 46;
        static final int IN = 47;
        static final int OUT = 48;
        static final int MARK = 49;
        static final int LOOK = 50;
        static final int COUNT = 51;

        /** Each name with a blank behind it, in the order of the numbers. */
        static final String NAMES = "li mv not neg add sub mul div rem and or xor shl shr sar eq ne lt ltu sxb sxh lb lbu lh lhu lw sb sh sw beq bne blt bge bltu bgeu jmp call ret halt push pop new zero grow free copy fill in out mark look ";

        /** What operands an instruction has: R a register, X a register or a number, N a number, L a label. */
        static String shapeOf(int op) {
            if (op == LI) {
                return "RN";
            }
            if (op <= NEG || op == SXB || op == SXH) {
                return "RR";
            }
            if (op <= LTU) {
                return "RRX";
            }
            if (op <= SW) {
                return "RRN";
            }
            if (op <= BGEU) {
                return "RXL";
            }
            return shapeOfOther(op);
        }

        private static String shapeOfOther(int op) {
            switch (op) {
                case JMP:
                case CALL:
                    return "L";
                case RET:
                case HALT:
                    return "";
                case NEW:
                case ZERO:
                    return "RX";
                case GROW:
                case COPY:
                case FILL:
                case LOOK:
                    return "RRX";
                case MARK:
                    return "RXN";
                default:
                    return "R";
            }
        }
    }

    /** A value of 32 bits, their shades, and whence these are. */
    private static final class Datum {
        int bits;
        int shade;
        int origin;

        void put(int newBits, int newShade, int newOrigin) {
            bits = newBits;
            shade = newShade;
            origin = newShade == 0 ? 0 : newOrigin;
        }

        void putSet(int newBits) {
            put(newBits, 0, 0);
        }

        void take(Datum other) {
            put(other.bits, other.shade, other.origin);
        }

        int tell(int what) {
            switch (what) {
                case 0:
                    return bits;
                case 1:
                    return shade;
                case 2:
                    return origin;
                default:
                    return NONE;
            }
        }
    }

    /** The instructions of a text, and the input that was given for them. */
    private static final class Program {
        static final int LIMIT = 200;
        static final int OPERANDS = 3;
        static final int INPUT_LIMIT = 100;

        final int[] ops;
        final int[] operands;
        final boolean[] plain;
        int count;
        final int[] inputs;
        int inputCount;

        Program() {
            ops = new int[LIMIT];
            operands = new int[LIMIT * OPERANDS];
            plain = new boolean[LIMIT];
            inputs = new int[INPUT_LIMIT];
        }

        void clear() {
            count = 0;
            inputCount = 0;
        }

        void setOperand(int at, int k, int value) {
            operands[at * OPERANDS + k] = value;
        }

        int addInput(int v) {
            if (inputCount >= INPUT_LIMIT) {
                return NONE;
            }
            inputs[inputCount] = v;
            inputCount++;
            return inputCount;
        }
    }

    /** Reads one line of a text piece by piece. */
    private static final class Scanner {
        static final int LINE_END = 0;
        static final int WORD = 1;
        static final int NUMBER = 2;
        static final int COMMA = 3;
        static final int COLON = 4;
        static final int WRONG = 5;

        private static final int WORD_LIMIT = 8;
        private static final int DIGIT_LIMIT = 10;
        private static final int HEX_LIMIT = 8;
        private static final long LEAST_NUMBER = -2147483648L;
        private static final long GREATEST_NUMBER = 4294967295L;

        private int[] text;
        private int at;
        private int lineEnd;
        /** What the latest piece is, and where it begins. */
        int kind;
        int start;
        /** The letters of a WORD, eight bits each, so that words are compared as numbers. */
        long word;
        int number;

        void openLine(int[] newText, int from, int to) {
            text = newText;
            at = from;
            lineEnd = to;
        }

        void readPiece() {
            while (at < lineEnd && text[at] == ' ') {
                at++;
            }
            start = at;
            int c = byteAt(at);
            if (c == NONE || c == ';') {
                start = lineEnd;
                at = lineEnd;
                kind = LINE_END;
            } else if (isLetter(c)) {
                readWord();
            } else if (c == '-' || isDigit(c)) {
                readNumber(c);
            } else {
                at++;
                kind = c == ',' ? COMMA : c == ':' ? COLON : WRONG;
            }
        }

        private int byteAt(int place) {
            return place < lineEnd ? text[place] : NONE;
        }

        private void readWord() {
            word = 0;
            while (at < lineEnd && (isLetter(text[at]) || isDigit(text[at]))) {
                word = word << 8 | text[at];
                at++;
            }
            kind = at - start > WORD_LIMIT ? WRONG : WORD;
        }

        private void readNumber(int first) {
            boolean fits;
            if (first == '0' && byteAt(at + 1) == 'x') {
                at += 2;
                fits = readHex();
            } else {
                if (first == '-') {
                    at++;
                }
                fits = readDecimal(first == '-');
            }
            int behind = byteAt(at);
            boolean joined = isLetter(behind) || isDigit(behind) || behind >= 'A' && behind <= 'Z';
            kind = fits && !joined ? NUMBER : WRONG;
        }

        private boolean readHex() {
            int value = 0;
            int digits = 0;
            while (digits < HEX_LIMIT && hexDigit(byteAt(at)) != NONE) {
                value = value << 4 | hexDigit(byteAt(at));
                at++;
                digits++;
            }
            number = value;
            return digits > 0;
        }

        private boolean readDecimal(boolean negative) {
            long value = 0;
            int digits = 0;
            while (digits < DIGIT_LIMIT && isDigit(byteAt(at))) {
                value = value * 10 + (text[at] - '0');
                at++;
                digits++;
            }
            if (negative) {
                value = -value;
            }
            number = (int) value;
            return digits > 0 && value >= LEAST_NUMBER && value <= GREATEST_NUMBER;
        }

        private static int hexDigit(int c) {
            if (c >= '0' && c <= '9') {
                return c - '0';
            }
            return c >= 'a' && c <= 'f' ? c - 'a' + 10 : NONE;
        }

        private static boolean isLetter(int c) {
            return c >= 'a' && c <= 'z';
        }

        private static boolean isDigit(int c) {
            return c >= '0' && c <= '9';
        }
    }

    /** Makes a program of a text, or tells its first fault. */
    private static final class Assembler {
        private static final int TEXT_LIMIT = 3000;
        private static final int LINE_LIMIT = 200;
        private static final int REGISTER_WORD = 'r' << 8;

        private static final int NO_PIECE = 1;
        private static final int MISPLACED = 2;
        private static final int TOLD_TWICE = 3;
        private static final int TOLD_NOWHERE = 4;
        private static final int TOO_LONG = 5;

        private final Scanner scanner;
        private final long[] names;
        private final long[] labels;
        private final int[] targets;
        private int labelCount;
        /** Of each instruction the label that it names (0 without), where, and in which line. */
        private final long[] wanted;
        private final int[] wantedPlace;
        private final int[] wantedLine;
        private int line;
        private Program result;

        int fault;
        int faultPlace;
        int faultLine;

        Assembler() {
            scanner = new Scanner();
            names = new long[Op.COUNT];
            labels = new long[LINE_LIMIT];
            targets = new int[LINE_LIMIT];
            wanted = new long[Program.LIMIT];
            wantedPlace = new int[Program.LIMIT];
            wantedLine = new int[Program.LIMIT];
            faultPlace = NONE;
            faultLine = NONE;
            int op = 0;
            for (int i = 0; i < Op.NAMES.length() && op < Op.COUNT; i++) {
                if (Op.NAMES.charAt(i) == ' ') {
                    op++;
                } else {
                    names[op] = names[op] << 8 | Op.NAMES.charAt(i);
                }
            }
        }

        boolean translate(int[] text, int length, Program into) {
            fault = 0;
            faultPlace = NONE;
            faultLine = NONE;
            labelCount = 0;
            line = 0;
            result = into;
            result.clear();
            if (isTooLong(text, length)) {
                return false;
            }
            int from = 0;
            while (from < length && line < LINE_LIMIT) {
                int to = endOfLine(text, from, length);
                line++;
                scanner.openLine(text, from, to);
                if (!readLine()) {
                    return false;
                }
                from = to + 1;
            }
            return resolveLabels();
        }

        private boolean isTooLong(int[] text, int length) {
            int lineHere = 1;
            for (int i = 0; i < length; i++) {
                if (lineHere > LINE_LIMIT || i == TEXT_LIMIT) {
                    refuse(TOO_LONG, i, lineHere);
                    return true;
                }
                if (text[i] == '\n') {
                    lineHere++;
                }
            }
            return false;
        }

        private static int endOfLine(int[] text, int from, int length) {
            int to = from;
            while (to < length && text[to] != '\n') {
                to++;
            }
            return to;
        }

        private void refuse(int newFault, int place, int inLine) {
            fault = newFault;
            faultPlace = place;
            faultLine = inLine;
        }

        /** The latest piece can't stand where it does. */
        private boolean refusePiece() {
            refuse(scanner.kind == Scanner.WRONG ? NO_PIECE : MISPLACED, scanner.start, line);
            return false;
        }

        private boolean readLine() {
            scanner.readPiece();
            if (isLabel()) {
                if (!readLabel()) {
                    return false;
                }
                scanner.readPiece();
            }
            if (scanner.kind == Scanner.LINE_END) {
                return true;
            }
            int op = scanner.kind == Scanner.WORD ? instruction(scanner.word) : NONE;
            return op == NONE ? refusePiece() : readInstruction(op);
        }

        private boolean readLabel() {
            long label = scanner.word;
            int place = scanner.start;
            scanner.readPiece();
            if (scanner.kind != Scanner.COLON) {
                return refusePiece();
            }
            if (findLabel(label) != NONE) {
                refuse(TOLD_TWICE, place, line);
                return false;
            }
            // There is one label a line at most, so the rows hold them all.
            if (labelCount < LINE_LIMIT) {
                labels[labelCount] = label;
                targets[labelCount] = result.count;
                labelCount++;
            }
            return true;
        }

        private boolean readInstruction(int op) {
            int at = result.count;
            if (at >= Program.LIMIT) {
                return refusePiece();
            }
            String shape = Op.shapeOf(op);
            wanted[at] = 0;
            result.ops[at] = op;
            result.plain[at] = false;
            for (int k = 0; k < shape.length(); k++) {
                scanner.readPiece();
                if (k > 0) {
                    if (scanner.kind != Scanner.COMMA) {
                        return refusePiece();
                    }
                    scanner.readPiece();
                }
                if (!readOperand(shape.charAt(k), at, k)) {
                    return refusePiece();
                }
            }
            scanner.readPiece();
            if (scanner.kind != Scanner.LINE_END) {
                return refusePiece();
            }
            result.count++;
            return true;
        }

        private boolean readOperand(char shape, int at, int k) {
            boolean isRegister = scanner.kind == Scanner.WORD && registerOf(scanner.word) != NONE;
            boolean isNumber = scanner.kind == Scanner.NUMBER;
            if (isRegister && (shape == 'R' || shape == 'X')) {
                result.setOperand(at, k, registerOf(scanner.word));
                return true;
            }
            if (isNumber && (shape == 'N' || shape == 'X')) {
                result.setOperand(at, k, scanner.number);
                result.plain[at] = result.plain[at] || shape == 'X';
                return true;
            }
            if (shape == 'L' && isLabel()) {
                wanted[at] = scanner.word;
                wantedPlace[at] = scanner.start;
                wantedLine[at] = line;
                return true;
            }
            return false;
        }

        private boolean isLabel() {
            return scanner.kind == Scanner.WORD && registerOf(scanner.word) == NONE
                    && instruction(scanner.word) == NONE;
        }

        private static int registerOf(long word) {
            long r = word - REGISTER_WORD - '0';
            return r >= 0 && r < Machine.REGISTERS ? (int) r : NONE;
        }

        private int instruction(long word) {
            for (int op = 0; op < Op.COUNT; op++) {
                if (names[op] == word) {
                    return op;
                }
            }
            return NONE;
        }

        private int findLabel(long label) {
            for (int i = 0; i < labelCount; i++) {
                if (labels[i] == label) {
                    return i;
                }
            }
            return NONE;
        }

        private boolean resolveLabels() {
            for (int at = 0; at < result.count; at++) {
                if (wanted[at] != 0) {
                    int found = findLabel(wanted[at]);
                    if (found == NONE) {
                        refuse(TOLD_NOWHERE, wantedPlace[at], wantedLine[at]);
                        return false;
                    }
                    // A label is always the last operand of its shape.
                    result.setOperand(at, Op.shapeOf(result.ops[at]).length() - 1, targets[found]);
                }
            }
            return true;
        }
    }

    /** What each instruction makes of values, and of their shades. */
    private static final class Rules {
        private static final int SHIFT_BITS = 31;
        private static final int SIGN = 1 << 31;

        static int value(int op, int a, int b) {
            switch (op) {
                case Op.NOT:
                    return ~a;
                case Op.ADD:
                    return a + b;
                case Op.SUB:
                    return a - b;
                case Op.MUL:
                    return a * b;
                case Op.DIV:
                    return b == 0 ? 0 : a / b;
                case Op.REM:
                    return b == 0 ? 0 : a % b;
                case Op.AND:
                    return a & b;
                case Op.OR:
                    return a | b;
                case Op.XOR:
                    return a ^ b;
                case Op.EQ:
                    return a == b ? 1 : 0;
                case Op.NE:
                    return a != b ? 1 : 0;
                case Op.LT:
                    return a < b ? 1 : 0;
                case Op.LTU:
                    return isBelow(a, b) ? 1 : 0;
                default:
                    return moved(op, a, b);
            }
        }

        /** Bits that go to other places as they are: so shades go as values do. */
        private static int moved(int op, int a, int b) {
            switch (op) {
                case Op.SHL:
                    return a << (b & SHIFT_BITS);
                case Op.SHR:
                    return a >>> (b & SHIFT_BITS);
                case Op.SAR:
                    return a >> (b & SHIFT_BITS);
                case Op.SXB:
                    return a << 24 >> 24;
                case Op.SXH:
                    return a << 16 >> 16;
                default:
                    return a;
            }
        }

        static int shade(int op, Datum a, Datum b, boolean fine) {
            int either = a.shade | b.shade;
            switch (op) {
                case Op.ADD:
                    return fine ? (least(a) + least(b) ^ most(a) + most(b)) | either : left(either);
                case Op.SUB:
                    return fine ? (least(a) - most(b) ^ most(a) - least(b)) | either : left(either);
                case Op.MUL:
                    return fine && (isSetZero(a) || isSetZero(b)) ? 0 : left(either);
                case Op.DIV:
                case Op.REM:
                    return any(either);
                case Op.AND:
                    return either & (a.bits | a.shade) & (b.bits | b.shade);
                case Op.OR:
                    return either & (~a.bits | a.shade) & (~b.bits | b.shade);
                case Op.XOR:
                    return either;
                case Op.SHL:
                case Op.SHR:
                case Op.SAR:
                    return (b.shade & SHIFT_BITS) != 0 ? any(1) : moved(op, a.shade, b.bits);
                case Op.EQ:
                case Op.NE:
                    return shadeOfEqual(a, b, fine);
                case Op.LT:
                    return shadeOfBelow(a, b, SIGN, fine);
                case Op.LTU:
                    return shadeOfBelow(a, b, 0, fine);
                default:
                    return moved(op, a.shade, 0);
            }
        }

        private static int shadeOfEqual(Datum a, Datum b, boolean fine) {
            int either = a.shade | b.shade;
            if (either == 0 || fine && ((a.bits ^ b.bits) & ~either) != 0) {
                return 0;
            }
            return 1;
        }

        /** With a sign, the highest bit is turned round, so that values stand in order as without one. */
        private static int shadeOfBelow(Datum a, Datum b, int turned, boolean fine) {
            if ((a.shade | b.shade) == 0) {
                return 0;
            }
            int bitsA = a.bits ^ turned;
            int bitsB = b.bits ^ turned;
            boolean never = !isBelow(bitsA & ~a.shade, bitsB | b.shade);
            boolean always = isBelow(bitsA | a.shade, bitsB & ~b.shade);
            return fine && (never || always) ? 0 : 1;
        }

        static int origin(Datum a, Datum b) {
            if (b.shade != 0 && (a.shade == 0 || b.origin > a.origin)) {
                return b.origin;
            }
            return a.shade != 0 ? a.origin : 0;
        }

        private static boolean isBelow(int a, int b) {
            return a + SIGN < b + SIGN;
        }

        private static boolean isSetZero(Datum d) {
            return d.shade == 0 && d.bits == 0;
        }

        private static int least(Datum d) {
            return d.bits & ~d.shade;
        }

        private static int most(Datum d) {
            return d.bits | d.shade;
        }

        private static int left(int x) {
            return x | -x;
        }

        private static int any(int x) {
            return x != 0 ? -1 : 0;
        }
    }

    /** The bytes, and the filling by which bits come that were never set. */
    private static final class Memory {
        static final int SIZE = 4096;
        static final int GLOBALS = 256;
        static final int GLOBALS_SIZE = 256;
        static final int HEAP = 1024;
        static final int STACK = 3072;
        static final int STACK_SIZE = 1024;

        private final int[] bits;
        private final int[] shades;
        private final int[] origins;
        private final boolean[] open;
        private int seed;
        /** Whether a mark opened or closed bytes of the stack since its pointer was changed. */
        private boolean stackMarked;

        Memory() {
            bits = new int[SIZE];
            shades = new int[SIZE];
            origins = new int[SIZE];
            open = new boolean[SIZE];
        }

        void clear(int filling) {
            seed = filling;
            stackMarked = false;
            for (int a = 0; a < SIZE; a++) {
                boolean global = a >= GLOBALS && a < GLOBALS + GLOBALS_SIZE;
                bits[a] = 0;
                shades[a] = global ? 0 : 255;
                origins[a] = 0;
                open[a] = global;
            }
        }

        int nextFilling() {
            seed = seed * 1664525 + 1013904223;
            return seed ^ seed >>> 16;
        }

        private static boolean isByte(int a) {
            return a >= 0 && a < SIZE;
        }

        static boolean holds(int from, int count) {
            return count == 0 || from >= 0 && count > 0 && count <= SIZE && from <= SIZE - count;
        }

        int tell(int a, int what) {
            if (!isByte(a)) {
                return NONE;
            }
            switch (what) {
                case 0:
                    return bits[a];
                case 1:
                    return shades[a];
                case 2:
                    return origins[a];
                case 3:
                    return open[a] ? 1 : 0;
                default:
                    return NONE;
            }
        }

        private void putByte(int a, int newBits, int newShade, int newOrigin) {
            bits[a] = newBits & 255;
            shades[a] = newShade & 255;
            origins[a] = shades[a] == 0 ? 0 : newOrigin;
        }

        void unset(int from, int count, int origin) {
            for (int i = 0; i < count && isByte(from + i); i++) {
                open[from + i] = true;
                putByte(from + i, nextFilling(), 255, origin);
            }
        }

        void close(int from, int count) {
            for (int i = 0; i < count && isByte(from + i); i++) {
                open[from + i] = false;
            }
        }

        /** Opens bytes and sets them; their bits stay. */
        void setAsTheyAre(int from, int count) {
            for (int i = 0; i < count && isByte(from + i); i++) {
                open[from + i] = true;
                putByte(from + i, bits[from + i], 0, 0);
            }
        }

        void setToZero(int from, int count) {
            for (int i = 0; i < count && isByte(from + i); i++) {
                open[from + i] = true;
                putByte(from + i, 0, 0, 0);
            }
        }

        void noteMark(int from, int count) {
            stackMarked = stackMarked || count > 0 && from + count > STACK;
        }

        /** The stack's bytes below the pointer are closed, all others open; they differ from that by a mark alone. */
        void moveStack(int before, int now, int origin) {
            int low = stackMarked ? STACK : Math.min(before, now);
            int high = stackMarked ? SIZE : Math.max(before, now);
            for (int a = low; a < high; a++) {
                if (a < now) {
                    open[a] = false;
                } else if (!open[a]) {
                    unset(a, 1, origin);
                }
            }
            stackMarked = false;
        }

        /** How many bytes from there on are open before one that is not; NONE if all are. */
        int firstClosed(int from, int count) {
            for (int i = 0; i < count; i++) {
                if (!isByte(from + i) || !open[from + i]) {
                    return i;
                }
            }
            return NONE;
        }

        /** The first that is not open, or has a shade; NONE without. */
        int firstDoubtful(int from, int count) {
            for (int i = 0; i < count && isByte(from + i); i++) {
                if (!open[from + i] || shades[from + i] != 0) {
                    return from + i;
                }
            }
            return NONE;
        }

        void readInto(Datum into, int from, int count) {
            int value = 0;
            int shade = 0;
            int origin = 0;
            for (int i = count - 1; i >= 0; i--) {
                int a = from + i;
                value = value << 8 | bits[a];
                shade = shade << 8 | shades[a];
                if (shades[a] != 0) {
                    origin = origins[a];
                }
            }
            into.put(value, shade, origin);
        }

        void write(Datum datum, int from, int count) {
            for (int i = 0; i < count; i++) {
                putByte(from + i, datum.bits >>> 8 * i, datum.shade >>> 8 * i, datum.origin);
            }
        }

        void repeat(Datum datum, int from, int count) {
            for (int i = 0; i < count; i++) {
                putByte(from + i, datum.bits, datum.shade, datum.origin);
            }
        }

        void move(int from, int to, int count) {
            if (count > 0 && holds(from, count) && holds(to, count)) {
                System.arraycopy(bits, from, bits, to, count);
                System.arraycopy(shades, from, shades, to, count);
                System.arraycopy(origins, from, origins, to, count);
            }
        }

        boolean isSetWord(int from) {
            return holds(from, 4) && firstDoubtful(from, 4) == NONE;
        }

        int wordAt(int from) {
            return bits[from] | bits[from + 1] << 8 | bits[from + 2] << 16 | bits[from + 3] << 24;
        }
    }

    /** The blocks, and which of them has each eight bytes of the heap in its span. */
    private static final class Heap {
        static final int LIMIT = 100;
        static final int GONE = 0;
        static final int KEPT = 1;
        static final int IN_USE = 2;

        private static final int UNIT = 8;
        private static final int UNITS = 256;
        private static final int SIZE_LIMIT = 512;
        private static final int KEPT_LIMIT = 512;

        final int[] addresses;
        final int[] sizes;
        final int[] conditions;
        private final int[] makers;
        private final int[] freers;
        int made;
        private final int[] owners;
        private final int[] queue;
        private int queueStart;
        private int queueEnd;
        private int keptBytes;

        Heap() {
            addresses = new int[LIMIT + 1];
            sizes = new int[LIMIT + 1];
            conditions = new int[LIMIT + 1];
            makers = new int[LIMIT + 1];
            freers = new int[LIMIT + 1];
            owners = new int[UNITS];
            queue = new int[LIMIT];
        }

        void clear() {
            made = 0;
            queueStart = 0;
            queueEnd = 0;
            keptBytes = 0;
            for (int i = 0; i < UNITS; i++) {
                owners[i] = 0;
            }
        }

        /** The number of a new block; 0 if there is no room for it. */
        int make(int size, int maker) {
            if (size < 0 || size > SIZE_LIMIT || made >= LIMIT) {
                return 0;
            }
            int first = firstFree(unitsOf(size));
            if (first == NONE) {
                return 0;
            }
            made++;
            addresses[made] = Memory.HEAP + UNIT * (first + 1);
            sizes[made] = size;
            conditions[made] = IN_USE;
            makers[made] = maker;
            freers[made] = NONE;
            own(made, made);
            return made;
        }

        /** How many units a span has: one ahead, those of the block, one behind. */
        private static int unitsOf(int size) {
            return 2 + (size + UNIT - 1) / UNIT;
        }

        private int firstFree(int units) {
            int free = 0;
            for (int i = 0; i < UNITS; i++) {
                free = owners[i] == 0 ? free + 1 : 0;
                if (free == units) {
                    return i - units + 1;
                }
            }
            return NONE;
        }

        private void own(int block, int owner) {
            int first = (addresses[block] - Memory.HEAP) / UNIT - 1;
            int units = unitsOf(sizes[block]);
            for (int i = 0; i < units; i++) {
                owners[first + i] = owner;
            }
        }

        /** The block, in use or kept, in whose span an address lies; 0 without. */
        int ownerOf(int address) {
            if (address < Memory.HEAP || address >= Memory.STACK) {
                return 0;
            }
            return owners[(address - Memory.HEAP) / UNIT];
        }

        /** The block in use that an address leads to, its beginning or behind; 0 without. */
        int leadsTo(int address) {
            int n = ownerOf(address);
            if (n == 0 || conditions[n] != IN_USE) {
                return 0;
            }
            int offset = address - addresses[n];
            return offset == 0 || offset > 0 && offset < sizes[n] ? n : 0;
        }

        /** The block in use that begins at an address; 0 without. */
        int beginsAt(int address) {
            int n = leadsTo(address);
            return n != 0 && addresses[n] == address ? n : 0;
        }

        void keep(int block, int freer) {
            conditions[block] = KEPT;
            freers[block] = freer;
            keptBytes += sizes[block];
            // A block is kept once, so the queue never comes round.
            if (queueEnd < LIMIT) {
                queue[queueEnd] = block;
                queueEnd++;
            }
            while (keptBytes > KEPT_LIMIT && queueStart < queueEnd) {
                int oldest = queue[queueStart];
                queueStart++;
                conditions[oldest] = GONE;
                keptBytes -= sizes[oldest];
                own(oldest, 0);
            }
        }

        boolean isInUse(int n) {
            return n >= 1 && n <= made && conditions[n] == IN_USE;
        }

        int tell(int n, int what) {
            if (n < 1 || n > made) {
                return NONE;
            }
            switch (what) {
                case 0:
                    return addresses[n];
                case 1:
                    return sizes[n];
                case 2:
                    return conditions[n];
                case 3:
                    return makers[n];
                case 4:
                    return freers[n];
                default:
                    return NONE;
            }
        }
    }

    /** Which blocks in use can still be come to. */
    private static final class Leaks {
        private static final int LOST = 0;
        private static final int BENEATH = 1;
        private static final int PERHAPS = 2;
        private static final int REACHED = 3;
        private static final int WORD = 4;

        private final int[] verdicts;
        private final int[] queue;
        private int queued;

        Leaks() {
            verdicts = new int[Heap.LIMIT + 1];
            queue = new int[Heap.LIMIT];
        }

        int verdict(int block, Heap heap, Memory memory, Datum[] registers) {
            queued = 0;
            for (int n = 0; n < verdicts.length; n++) {
                verdicts[n] = LOST;
            }
            spread(REACHED, heap, memory, registers);
            // What leads from these to a beginning has been reached by now, so all that is left leads inside.
            spread(PERHAPS, heap, memory, registers);
            for (int n = 1; n <= heap.made; n++) {
                if (heap.isInUse(n) && verdicts[n] <= BENEATH) {
                    followWords(heap.addresses[n], heap.sizes[n], n, BENEATH, heap, memory);
                }
            }
            return verdicts[block];
        }

        private void spread(int stage, Heap heap, Memory memory, Datum[] registers) {
            for (int r = 0; r < registers.length; r++) {
                if (registers[r].shade == 0) {
                    follow(registers[r].bits, 0, stage, heap);
                }
            }
            followWords(Memory.GLOBALS, Memory.GLOBALS_SIZE, 0, stage, heap, memory);
            followWords(Memory.STACK, Memory.STACK_SIZE, 0, stage, heap, memory);
            // The queue grows meanwhile, by each block once.
            for (int i = 0; i < queued && i < queue.length; i++) {
                int n = queue[i];
                followWords(heap.addresses[n], heap.sizes[n], n, stage, heap, memory);
            }
        }

        private void followWords(int from, int size, int source, int stage, Heap heap, Memory memory) {
            for (int i = 0; i + WORD <= size; i += WORD) {
                if (memory.isSetWord(from + i)) {
                    follow(memory.wordAt(from + i), source, stage, heap);
                }
            }
        }

        private void follow(int pointer, int source, int stage, Heap heap) {
            int n = heap.leadsTo(pointer);
            if (n == 0 || n == source || verdicts[n] != LOST) {
                return;
            }
            if (stage != PERHAPS && heap.addresses[n] != pointer) {
                return;
            }
            verdicts[n] = stage;
            if (stage != BENEATH && queued < queue.length) {
                queue[queued] = n;
                queued++;
            }
        }
    }

    /** The reports of a run, and what is not to be reported. */
    private static final class Ledger {
        static final int CONDITION = 1;
        static final int ADDRESS = 2;
        static final int OUTPUT = 3;
        static final int DIVISOR = 4;
        static final int SIZE = 5;
        static final int INVALID = 6;
        static final int INVALID_FREE = 7;

        private static final int ALL_KINDS = 0;
        private static final int LAST_KIND = 7;
        private static final int LIMIT = 60;
        private static final int SUPPRESSION_LIMIT = 20;

        private final int[] kinds;
        private final int[] places;
        private final int[] origins;
        private final int[] counts;
        int kept;
        int reported;
        int suppressed;
        private final int[] quietKinds;
        private final int[] quietFrom;
        private final int[] quietTo;
        private int suppressions;

        Ledger() {
            kinds = new int[LIMIT];
            places = new int[LIMIT];
            origins = new int[LIMIT];
            counts = new int[LIMIT];
            quietKinds = new int[SUPPRESSION_LIMIT];
            quietFrom = new int[SUPPRESSION_LIMIT];
            quietTo = new int[SUPPRESSION_LIMIT];
        }

        void clear() {
            kept = 0;
            reported = 0;
            suppressed = 0;
        }

        void dropSuppressions() {
            suppressions = 0;
        }

        int addSuppression(int kind, int from, int to) {
            boolean wrong = kind < ALL_KINDS || kind > LAST_KIND || from < 0 || from > to;
            if (wrong || suppressions >= SUPPRESSION_LIMIT) {
                return NONE;
            }
            quietKinds[suppressions] = kind;
            quietFrom[suppressions] = from;
            quietTo[suppressions] = to;
            suppressions++;
            return suppressions;
        }

        void note(int kind, int place, int origin) {
            if (isSuppressed(kind, place)) {
                suppressed++;
                return;
            }
            reported++;
            int found = find(kind, place, origin);
            if (found != NONE) {
                counts[found]++;
            } else if (kept < LIMIT) {
                kinds[kept] = kind;
                places[kept] = place;
                origins[kept] = origin;
                counts[kept] = 1;
                kept++;
            }
        }

        private boolean isSuppressed(int kind, int place) {
            for (int i = 0; i < suppressions; i++) {
                boolean kindFits = quietKinds[i] == ALL_KINDS || quietKinds[i] == kind;
                if (kindFits && quietFrom[i] <= place && place <= quietTo[i]) {
                    return true;
                }
            }
            return false;
        }

        private int find(int kind, int place, int origin) {
            for (int i = 0; i < kept; i++) {
                if (kinds[i] == kind && places[i] == place && origins[i] == origin) {
                    return i;
                }
            }
            return NONE;
        }

        boolean isQuiet() {
            return reported == 0 && suppressed == 0;
        }

        int tell(int k, int what) {
            if (k < 0 || k >= kept) {
                return NONE;
            }
            switch (what) {
                case 0:
                    return kinds[k];
                case 1:
                    return places[k];
                case 2:
                    return origins[k];
                case 3:
                    return counts[k];
                default:
                    return NONE;
            }
        }
    }

    /** Runs a program step by step. */
    private static final class Machine {
        static final int REGISTERS = 8;

        private static final int STACK_POINTER = 7;
        private static final int UNDER_WAY = 0;
        private static final int HALTED = 1;
        private static final int DIVISOR_ZERO = 1;
        private static final int BAD_POINTER = 2;
        private static final int TOO_MANY_CALLS = 3;
        private static final int BAD_COUNT = 4;
        private static final int CALL_LIMIT = 32;
        private static final int OUTPUT_LIMIT = 100;
        private static final int COUNT_LIMIT = 256;
        private static final int BLOCK_ORIGIN = 8;
        private static final int MARK_ORIGIN = 256;
        private static final int STACK_ORIGIN = 512;

        private Program program;
        final Memory memory;
        private final Heap heap;
        private final Leaks leaks;
        final Ledger ledger;
        final Datum[] registers;
        /** What an instruction works on; copies, since it may write to the same register. */
        private final Datum a;
        private final Datum b;
        boolean fine;
        private int at;
        private int next;
        private int status;
        int steps;
        int mark;
        private int inputAt;
        private final int[] calls;
        private int callCount;
        private final int[] outputs;
        private int outputCount;

        Machine() {
            memory = new Memory();
            heap = new Heap();
            leaks = new Leaks();
            ledger = new Ledger();
            registers = new Datum[REGISTERS];
            for (int r = 0; r < REGISTERS; r++) {
                registers[r] = new Datum();
            }
            a = new Datum();
            b = new Datum();
            calls = new int[CALL_LIMIT];
            outputs = new int[OUTPUT_LIMIT];
        }

        void restart(Program newProgram, int filling, boolean newFine) {
            program = newProgram;
            fine = newFine;
            memory.clear(filling);
            heap.clear();
            ledger.clear();
            for (int r = 0; r < STACK_POINTER; r++) {
                registers[r].put(memory.nextFilling(), -1, r + 1);
            }
            registers[STACK_POINTER].putSet(Memory.SIZE);
            steps = 0;
            mark = 7;
            inputAt = 0;
            callCount = 0;
            outputCount = 0;
            status = UNDER_WAY;
            goTo(0);
        }

        private void goTo(int place) {
            at = place;
            if (at >= program.count) {
                status = HALTED;
            }
        }

        int advance(int limit) {
            int made = 0;
            while (made < limit && status == UNDER_WAY) {
                int op = program.ops[at];
                next = at + 1;
                if (op <= Op.HALT) {
                    performPlain(op);
                } else {
                    performWide(op);
                }
                if (status == UNDER_WAY) {
                    goTo(next);
                }
                made++;
            }
            steps += made;
            return made;
        }

        int tell(int what) {
            switch (what) {
                case 0:
                    return at;
                case 1:
                    return status;
                case 2:
                    return steps;
                case 3:
                    return ledger.kept;
                case 4:
                    return ledger.reported;
                case 5:
                    return ledger.suppressed;
                case 6:
                    return outputCount;
                case 7:
                    return heap.made;
                case 8:
                    return mark;
                case 9:
                    return ledger.isQuiet() ? 1 : 0;
                default:
                    return NONE;
            }
        }

        int outputAt(int k) {
            return k >= 0 && k < OUTPUT_LIMIT && k < outputCount ? outputs[k] : NONE;
        }

        int tellBlock(int n, int what) {
            if (what != 5) {
                return heap.tell(n, what);
            }
            return heap.isInUse(n) ? leaks.verdict(n, heap, memory, registers) : NONE;
        }

        private void performPlain(int op) {
            if (op <= Op.SXH) {
                compute(op);
            } else if (op <= Op.LW) {
                load(op);
            } else if (op <= Op.SW) {
                store(op);
            } else if (op <= Op.BGEU) {
                branch(op);
            } else {
                jump(op);
            }
        }

        private void performWide(int op) {
            switch (op) {
                case Op.PUSH:
                    push();
                    break;
                case Op.POP:
                    pop();
                    break;
                case Op.NEW:
                case Op.ZERO:
                    allot(op);
                    break;
                case Op.GROW:
                    grow();
                    break;
                case Op.FREE:
                    giveBack();
                    break;
                case Op.COPY:
                    copyBytes();
                    break;
                case Op.FILL:
                    fillBytes();
                    break;
                case Op.IN:
                    readInput();
                    break;
                case Op.OUT:
                    putOut();
                    break;
                case Op.MARK:
                    markBytes();
                    break;
                default:
                    look();
                    break;
            }
        }

        private int operand(int k) {
            return program.operands[at * Program.OPERANDS + k];
        }

        private Datum registerOf(int k) {
            // The assembler lets 0 to 7 alone come here; the mask makes it plain that the index is none other.
            return registers[operand(k) & STACK_POINTER];
        }

        private void takeRegister(Datum into, int k) {
            into.take(registerOf(k));
        }

        /** An operand X: a register or a number. */
        private void takeEither(Datum into, int k) {
            if (program.plain[at]) {
                into.putSet(operand(k));
            } else {
                takeRegister(into, k);
            }
        }

        /** A register becomes something: the one way to change it, for the stack goes with its pointer. */
        private void give(int r, int bits, int shade, int origin) {
            Datum target = registers[r & STACK_POINTER];
            if (r == STACK_POINTER) {
                if (shade != 0 || bits < Memory.STACK || bits > Memory.SIZE) {
                    trap(BAD_POINTER);
                    return;
                }
                memory.moveStack(target.bits, bits, STACK_ORIGIN + at);
            }
            target.put(bits, shade, origin);
        }

        private void trap(int number) {
            status = HALTED + number;
            addToMark(4);
            addToMark(number);
        }

        private void addToMark(int x) {
            mark = mark * 31 + x;
        }

        private void reportShade(int kind, Datum datum) {
            if (datum.shade != 0) {
                ledger.note(kind, at, datum.origin);
            }
        }

        /** Whether all bytes are open; if not, that is reported of the first. */
        private boolean isValid(int from, int count) {
            int closed = memory.firstClosed(from, count);
            if (closed == NONE) {
                return true;
            }
            ledger.note(Ledger.INVALID, at, heap.ownerOf(from + closed));
            return false;
        }

        private void compute(int op) {
            int rule = op;
            if (op == Op.LI) {
                a.putSet(operand(1));
                b.putSet(0);
            } else if (op == Op.NEG) {
                a.putSet(0);
                takeRegister(b, 1);
                rule = Op.SUB;
            } else {
                takeRegister(a, 1);
                if (op >= Op.ADD && op <= Op.LTU) {
                    takeEither(b, 2);
                } else {
                    b.putSet(0);
                }
            }
            if (op == Op.DIV || op == Op.REM) {
                reportShade(Ledger.DIVISOR, b);
                if (b.bits == 0) {
                    trap(DIVISOR_ZERO);
                    return;
                }
            }
            int shade = Rules.shade(rule, a, b, fine);
            give(operand(0), Rules.value(rule, a.bits, b.bits), shade, Rules.origin(a, b));
        }

        private static int widthOf(int op) {
            switch (op) {
                case Op.LB:
                case Op.LBU:
                case Op.SB:
                    return 1;
                case Op.LH:
                case Op.LHU:
                case Op.SH:
                    return 2;
                default:
                    return 4;
            }
        }

        /** Bytes of memory come into a; 0, set, if they are not valid. */
        private void loadBytes(Datum base, int offset, int width) {
            int from = base.bits + offset;
            reportShade(Ledger.ADDRESS, base);
            if (isValid(from, width)) {
                memory.readInto(a, from, width);
            } else {
                a.putSet(0);
            }
        }

        private void load(int op) {
            loadBytes(registerOf(1), operand(2), widthOf(op));
            int widening = op == Op.LB ? Op.SXB : op == Op.LH ? Op.SXH : Op.MV;
            int shade = Rules.shade(widening, a, a, fine);
            give(operand(0), Rules.value(widening, a.bits, 0), shade, a.origin);
        }

        private void store(int op) {
            Datum base = registerOf(1);
            int to = base.bits + operand(2);
            reportShade(Ledger.ADDRESS, base);
            if (isValid(to, widthOf(op))) {
                memory.write(registerOf(0), to, widthOf(op));
            }
        }

        private void branch(int op) {
            takeRegister(a, 0);
            takeEither(b, 1);
            int rule = op <= Op.BNE ? Op.EQ : op <= Op.BGE ? Op.LT : Op.LTU;
            boolean turned = op == Op.BNE || op == Op.BGE || op == Op.BGEU;
            if (Rules.shade(rule, a, b, fine) != 0) {
                ledger.note(Ledger.CONDITION, at, Rules.origin(a, b));
            }
            boolean taken = Rules.value(rule, a.bits, b.bits) != 0 ^ turned;
            addToMark(taken ? 1 : 2);
            if (taken) {
                next = operand(2);
            }
        }

        private void jump(int op) {
            switch (op) {
                case Op.JMP:
                    next = operand(0);
                    break;
                case Op.CALL:
                    if (callCount >= CALL_LIMIT) {
                        trap(TOO_MANY_CALLS);
                        return;
                    }
                    calls[callCount] = next;
                    callCount++;
                    next = operand(0);
                    break;
                case Op.RET:
                    if (callCount == 0) {
                        status = HALTED;
                        return;
                    }
                    callCount--;
                    next = calls[callCount];
                    break;
                default:
                    status = HALTED;
                    break;
            }
        }

        private void push() {
            Datum pointer = registers[STACK_POINTER];
            int to = pointer.bits - 4;
            // The pointer itself is pushed as it was ahead.
            takeRegister(a, 0);
            reportShade(Ledger.ADDRESS, pointer);
            give(STACK_POINTER, to, pointer.shade, 0);
            if (status == UNDER_WAY && isValid(to, 4)) {
                memory.write(a, to, 4);
            }
        }

        private void pop() {
            Datum pointer = registers[STACK_POINTER];
            loadBytes(pointer, 0, 4);
            give(operand(0), a.bits, a.shade, a.origin);
            if (operand(0) != STACK_POINTER) {
                give(STACK_POINTER, pointer.bits + 4, pointer.shade, 0);
            }
        }

        private void allot(int op) {
            takeEither(b, 1);
            reportShade(Ledger.SIZE, b);
            give(operand(0), allotBlock(b.bits, op == Op.ZERO), 0, 0);
        }

        /** The address of a new block; 0 if there is none. */
        private int allotBlock(int size, boolean zeroed) {
            int block = heap.make(size, at);
            if (block == 0) {
                return 0;
            }
            int address = heap.addresses[block];
            if (zeroed) {
                memory.setToZero(address, size);
            } else {
                memory.unset(address, size, BLOCK_ORIGIN + block);
            }
            return address;
        }

        private void giveBack() {
            takeRegister(a, 0);
            reportShade(Ledger.ADDRESS, a);
            if (a.bits != 0) {
                int block = blockToFree(a.bits);
                if (block != 0) {
                    keepBlock(block);
                }
            }
        }

        /** The block in use that begins there; 0 without, which is reported. */
        private int blockToFree(int address) {
            int block = heap.beginsAt(address);
            if (block == 0) {
                ledger.note(Ledger.INVALID_FREE, at, heap.ownerOf(address));
            }
            return block;
        }

        private void keepBlock(int block) {
            memory.close(heap.addresses[block], heap.sizes[block]);
            heap.keep(block, at);
        }

        private void grow() {
            takeRegister(a, 1);
            takeEither(b, 2);
            reportShade(Ledger.ADDRESS, a);
            reportShade(Ledger.SIZE, b);
            int before = a.bits == 0 ? 0 : blockToFree(a.bits);
            boolean refused = a.bits != 0 && before == 0;
            int address = refused ? 0 : allotBlock(b.bits, false);
            if (address != 0 && before != 0) {
                memory.move(a.bits, address, Math.min(heap.sizes[before], b.bits));
                keepBlock(before);
            }
            give(operand(0), address, 0, 0);
        }

        private static boolean isCount(int count) {
            return count >= 0 && count <= COUNT_LIMIT;
        }

        private void copyBytes() {
            int to = registerOf(0).bits;
            takeRegister(a, 1);
            takeEither(b, 2);
            reportShade(Ledger.ADDRESS, registerOf(0));
            reportShade(Ledger.ADDRESS, a);
            reportShade(Ledger.SIZE, b);
            if (!isCount(b.bits)) {
                trap(BAD_COUNT);
            } else if (isValid(a.bits, b.bits) && isValid(to, b.bits)) {
                memory.move(a.bits, to, b.bits);
            }
        }

        private void fillBytes() {
            int to = registerOf(0).bits;
            takeRegister(a, 1);
            takeEither(b, 2);
            reportShade(Ledger.ADDRESS, registerOf(0));
            reportShade(Ledger.SIZE, b);
            if (!isCount(b.bits)) {
                trap(BAD_COUNT);
            } else if (isValid(to, b.bits)) {
                memory.repeat(a, to, b.bits);
            }
        }

        private void readInput() {
            int value = -1;
            if (inputAt < program.inputCount) {
                value = program.inputs[inputAt];
                inputAt++;
            }
            give(operand(0), value, 0, 0);
        }

        private void putOut() {
            Datum value = registerOf(0);
            reportShade(Ledger.OUTPUT, value);
            if (outputCount < OUTPUT_LIMIT) {
                outputs[outputCount] = value.bits;
            }
            outputCount++;
            addToMark(3);
            addToMark(value.bits);
        }

        private boolean isRange(int from, int count) {
            return isCount(count) && Memory.holds(from, count);
        }

        private void markBytes() {
            takeRegister(a, 0);
            takeEither(b, 1);
            int how = operand(2);
            reportShade(Ledger.ADDRESS, a);
            reportShade(Ledger.SIZE, b);
            if (how < 0 || how > 2 || !isRange(a.bits, b.bits)) {
                trap(BAD_COUNT);
                return;
            }
            memory.noteMark(a.bits, b.bits);
            if (how == 0) {
                memory.close(a.bits, b.bits);
            } else if (how == 1) {
                memory.unset(a.bits, b.bits, MARK_ORIGIN + Math.min(at, 255));
            } else {
                memory.setAsTheyAre(a.bits, b.bits);
            }
        }

        private void look() {
            takeRegister(a, 1);
            takeEither(b, 2);
            reportShade(Ledger.ADDRESS, a);
            reportShade(Ledger.SIZE, b);
            if (!isRange(a.bits, b.bits)) {
                trap(BAD_COUNT);
                return;
            }
            give(operand(0), memory.firstDoubtful(a.bits, b.bits), 0, 0);
        }
    }
}
