/** A minicomputer of four accumulators with its three devices, its assembler and its teller. */
public final class NovaDesk {
    public static final int NONE = -1;

    private static final int MEMORY_SIZE = 32768;
    private static final int HIGHEST_ADDRESS = 32767;
    private static final int HIGHEST_WORD = 65535;
    private static final int HIGHEST_BIT = 32768;
    private static final int CARRY_BIT = 65536;

    private static final int FIRST_DEVICE = 8;
    private static final int LAST_DEVICE = 10;
    private static final int CPU = 63;
    private static final int MOST_TAPE = 500;
    private static final int MOST_PAPER = 1000;
    private static final int MOST_STEPS = 5000;

    private static final int INDIRECT = 0x0400;
    private static final int NO_LOAD = 8;

    private static final int ALL_DONE = 0;
    private static final int HALTED = 1;
    private static final int LOST = 2;

    private static final int MOST_TEXT = 6000;
    // A word needs a character and, but for the last one, its line's end.
    private static final int MOST_WORDS = 3000;
    private static final int MOST_LABELS = 200;
    private static final int FED_AT_ONCE = 20;
    private static final int LONGEST_NAME = 6;
    private static final int MOST_OPERANDS = 3;
    private static final int LONGEST_TOLD = 32;

    // What a statement has behind its name.
    private static final int LOCATION = 0;
    private static final int BLOCK = 1;
    private static final int JUMP = 2;
    private static final int MOVE = 3;
    private static final int ARITHMETIC = 4;
    private static final int SIGNAL = 5;
    private static final int TRANSFER = 6;
    private static final int TEST = 7;
    private static final int BARE = 8;
    private static final int SINGLE = 9;
    private static final int VALUE = 10;

    private static final String BASES = "ZOC";
    private static final String SHIFTS = "LRS";
    private static final String CONTROLS = "SCP";

    // Kinds of items; each of the signs is its own character.
    private static final int LINE_END = 10;
    private static final int BAD = 1;
    private static final int NAME = 2;
    private static final int NUMBER = 3;
    private static final String SIGNS = "+-,@#:";

    private static final int NO_ITEM = 1;
    private static final int WRONG_ITEM = 2;
    private static final int NO_NUMBER = 3;
    private static final int WRONG_LABEL = 4;
    private static final int BEYOND_BOUND = 5;
    private static final int WRONG_ADDRESS = 6;
    private static final int NO_ROOM = 7;

    private final Machine machine;
    private final Assembler assembler;
    private final Teller teller;

    public NovaDesk() {
        machine = new Machine();
        assembler = new Assembler();
        teller = new Teller();
    }

    public int put(int address, int v) throws IllegalArgumentException {
        require(isWithin(address, HIGHEST_ADDRESS) && isWithin(v, HIGHEST_WORD));
        int before = machine.load(address);
        machine.store(address, v);
        return before;
    }

    public int word(int address) throws IllegalArgumentException {
        require(isWithin(address, HIGHEST_ADDRESS));
        return machine.load(address);
    }

    public int set(int register, int v) throws IllegalArgumentException {
        require(isWithin(register, Machine.SWITCHES) && isWithin(v, highestOf(register)));
        int before = machine.readRegister(register);
        machine.writeRegister(register, v);
        return before;
    }

    public int register(int register) throws IllegalArgumentException {
        require(isWithin(register, Machine.LAST_REGISTER));
        return machine.readRegister(register);
    }

    public int device(int device, int what) throws IllegalArgumentException {
        require(device >= FIRST_DEVICE && device <= LAST_DEVICE && isWithin(what, 2));
        return machine.readDevice(device, what);
    }

    public int tape(int c) throws IllegalArgumentException, IllegalStateException {
        require(isWithin(c, 255));
        requireRoom(machine.reader.waiting < MOST_TAPE);
        machine.reader.append(c);
        return machine.reader.waiting;
    }

    public int run(int n) throws IllegalArgumentException {
        require(n >= 1 && n <= MOST_STEPS);
        return machine.runUpTo(n);
    }

    public int why() {
        return machine.ending;
    }

    public int printed(int i) {
        return machine.printer.characterAt(i);
    }

    public int tear() {
        return machine.printer.takePaper();
    }

    public void reset() {
        machine.clear();
        assembler.clear();
        teller.clear();
    }

    public int feed(int a, int b, int c, int d, int e) throws IllegalStateException {
        Items items = assembler.items;
        requireRoom(items.length + FED_AT_ONCE <= MOST_TEXT);
        items.appendFour(a);
        items.appendFour(b);
        items.appendFour(c);
        items.appendFour(d);
        items.appendFour(e);
        return items.length;
    }

    public void end(int n) throws IllegalArgumentException {
        require(isWithin(n, assembler.items.length));
        assembler.items.length = n;
    }

    public int assemble() {
        assembler.begin();
        assembler.goThrough(true);
        assembler.goThrough(false);
        return assembler.finish(machine);
    }

    public int fault(int what) throws IllegalArgumentException {
        require(isWithin(what, 1));
        return what == 0 ? assembler.faultNumber : assembler.faultLine;
    }

    public int label(int first, int second) {
        return assembler.latest.find((long) first << 32 | second & 0xFFFFFFFFL);
    }

    public int tell(int address) throws IllegalArgumentException {
        require(isWithin(address, HIGHEST_ADDRESS));
        return teller.describe(machine.load(address));
    }

    public int told(int i) {
        return teller.characterAt(i);
    }

    private static void require(boolean allowed) {
        if (!allowed) {
            throw new IllegalArgumentException();
        }
    }

    private static void requireRoom(boolean enough) {
        if (!enough) {
            throw new IllegalStateException();
        }
    }

    private static boolean isWithin(int v, int highest) {
        return v >= 0 && v <= highest;
    }

    private static int highestOf(int register) {
        switch (register) {
            case Machine.CARRY: return 1;
            case Machine.PC: return HIGHEST_ADDRESS;
            default: return HIGHEST_WORD;
        }
    }

    /** Six letters at most, the first in the highest byte, as label() has them too. */
    private static long packed(String letters) {
        long key = 0;
        for (int i = 0; i < letters.length(); i++) {
            key |= (long) letters.charAt(i) << (56 - 8 * i);
        }
        return key;
    }

    /** What all devices have; what a device does when its time has come is its own. */
    private abstract static class Device {
        final int maskBit;
        final int ticksNeeded;
        int held;
        boolean busy;
        boolean done;
        int ticks;

        Device(int maskBit, int ticksNeeded) {
            this.maskBit = maskBit;
            this.ticksNeeded = ticksNeeded;
        }

        /** Whether it could do its work at this tick. */
        abstract boolean work();

        int input(int what) {
            return 0;
        }

        void output(int what, int v) {
        }

        void start() {
            busy = true;
            done = false;
            ticks = 0;
        }

        void stop() {
            busy = false;
            done = false;
        }

        void tick() {
            ticks++;
            if (ticks >= ticksNeeded && work()) {
                busy = false;
                done = true;
            }
        }

        void clear() {
            stop();
            held = 0;
            ticks = 0;
        }

        boolean asks(int mask) {
            return done && (mask & maskBit) == 0;
        }

        boolean passes(int control) {
            switch (control) {
                case 0: return busy;
                case 1: return !busy;
                case 2: return done;
                default: return !done;
            }
        }
    }

    private static final class Reader extends Device {
        // A ring: what is read makes room for what comes behind.
        private final char[] tape = new char[MOST_TAPE];
        private int head;
        int waiting;

        Reader() {
            super(2, 4);
        }

        void append(int c) {
            if (waiting < MOST_TAPE) {
                tape[(head + waiting) % MOST_TAPE] = (char) c;
                waiting++;
            }
        }

        boolean work() {
            if (waiting == 0) {
                return false;
            }
            held = tape[head];
            head = (head + 1) % MOST_TAPE;
            waiting--;
            return true;
        }

        int input(int what) {
            return what == 1 ? held : 0;
        }

        void clear() {
            super.clear();
            waiting = 0;
        }
    }

    private static final class Printer extends Device {
        private final char[] paper = new char[MOST_PAPER];
        private int count;

        Printer() {
            super(1, 4);
        }

        boolean work() {
            if (count < MOST_PAPER) {
                paper[count] = (char) held;
            }
            count++;
            return true;
        }

        void output(int what, int v) {
            if (what == 2) {
                held = v & 255;
            }
        }

        int characterAt(int i) {
            return i >= 0 && i < count && i < MOST_PAPER ? paper[i] : NONE;
        }

        int takePaper() {
            int all = count;
            count = 0;
            return all;
        }

        void clear() {
            super.clear();
            count = 0;
        }
    }

    private static final class Clock extends Device {
        Clock() {
            super(4, 20);
        }

        boolean work() {
            return true;
        }
    }

    /** Memory, registers and devices, and the doing of instructions. */
    private static final class Machine {
        static final int CARRY = 4;
        static final int PC = 5;
        static final int SWITCHES = 6;
        static final int ION = 7;
        static final int MASK = 8;
        static final int INSTRUCTIONS = 9;
        static final int LAST_REGISTER = 10;

        private static final int LONGEST_ROW = 14;

        private final int[] memory = new int[MEMORY_SIZE];
        private final int[] accumulators = new int[4];
        final Reader reader = new Reader();
        final Printer printer = new Printer();
        private final Device[] devices = {reader, printer, new Clock()};
        private int carry;
        private int pc;
        private int switches;
        private int mask;
        private boolean ion;
        // An interrupt waits for one instruction behind the one that lets interrupts in.
        private boolean letInJustNow;
        private int instructions;
        private int interrupts;
        int ending;

        int load(int address) {
            return memory[address & HIGHEST_ADDRESS];
        }

        void store(int address, int v) {
            memory[address & HIGHEST_ADDRESS] = v;
        }

        int readRegister(int register) {
            switch (register) {
                case CARRY: return carry;
                case PC: return pc;
                case SWITCHES: return switches;
                case ION: return ion ? 1 : 0;
                case MASK: return mask;
                case INSTRUCTIONS: return instructions;
                case LAST_REGISTER: return interrupts;
                default: return accumulators[register & 3];
            }
        }

        void writeRegister(int register, int v) {
            switch (register) {
                case CARRY:
                    carry = v;
                    break;
                case PC:
                    pc = v;
                    break;
                case SWITCHES:
                    switches = v;
                    break;
                default:
                    accumulators[register & 3] = v;
                    break;
            }
        }

        int readDevice(int number, int what) {
            Device device = deviceAt(number);
            if (device == null) {
                return 0;
            }
            switch (what) {
                case 0: return device.held;
                case 1: return device.busy ? 1 : 0;
                default: return device.done ? 1 : 0;
            }
        }

        void clear() {
            for (int i = 0; i < accumulators.length; i++) {
                accumulators[i] = 0;
            }
            for (int i = 0; i < devices.length; i++) {
                devices[i].clear();
            }
            carry = 0;
            pc = 0;
            switches = 0;
            mask = 0;
            ion = false;
            letInJustNow = false;
            instructions = 0;
            interrupts = 0;
            ending = ALL_DONE;
        }

        int runUpTo(int n) {
            ending = ALL_DONE;
            int before = instructions;
            for (int i = 0; i < n && ending == ALL_DONE; i++) {
                doNext();
            }
            return instructions - before;
        }

        private void doNext() {
            if (ion && !letInJustNow && askingDevice() != 0 && !interrupt()) {
                ending = LOST;
                return;
            }
            int instruction = load(pc);
            if (!perform(instruction)) {
                ending = LOST;
                return;
            }
            instructions++;
            letInJustNow = letsIn(instruction);
            for (int i = 0; i < devices.length; i++) {
                if (devices[i].busy) {
                    devices[i].tick();
                }
            }
        }

        private static boolean letsIn(int instruction) {
            boolean isCpu = (instruction & 0xE03F) == (0x6000 | CPU);
            boolean isTest = (instruction & 0x0700) == 0x0700;
            return isCpu && !isTest && (instruction >> 6 & 3) == 1;
        }

        /** The number of the least device that asks, 0 for none. */
        private int askingDevice() {
            for (int i = 0; i < devices.length; i++) {
                if (devices[i].asks(mask)) {
                    return FIRST_DEVICE + i;
                }
            }
            return 0;
        }

        private boolean interrupt() {
            interrupts++;
            store(0, pc);
            ion = false;
            int target = endOfRow(1);
            if (target == NONE) {
                return false;
            }
            pc = target;
            return true;
        }

        /** False when the machine is lost at this instruction. */
        private boolean perform(int instruction) {
            if (instruction >= HIGHEST_BIT) {
                goOn(calculate(instruction));
                return true;
            }
            if (instruction >= 0x6000) {
                goOn(operate(instruction));
                return true;
            }
            int e = addressOf(instruction);
            if (e == NONE) {
                return false;
            }
            useMemory(instruction >> 11, e);
            return true;
        }

        private void goOn(boolean skip) {
            pc = pc + (skip ? 2 : 1) & HIGHEST_ADDRESS;
        }

        private void useMemory(int operation, int e) {
            switch (operation) {
                case 0:
                    pc = e;
                    break;
                case 1:
                    accumulators[3] = pc + 1 & HIGHEST_ADDRESS;
                    pc = e;
                    break;
                case 2:
                    goOn(countAt(e, 1) == 0);
                    break;
                case 3:
                    goOn(countAt(e, -1) == 0);
                    break;
                default:
                    moveWord(operation, e);
                    break;
            }
        }

        private void moveWord(int operation, int e) {
            int a = operation & 3;
            if (operation < 8) {
                accumulators[a] = load(e);
            } else {
                store(e, accumulators[a]);
            }
            goOn(false);
        }

        private int countAt(int address, int step) {
            int counted = load(address) + step & HIGHEST_WORD;
            store(address, counted);
            return counted;
        }

        /** E, or NONE when the row of indirect addresses has no end. */
        private int addressOf(int instruction) {
            int d = instruction & 255;
            int near = d < 128 ? d : d - 256;
            int e;
            switch (instruction >> 8 & 3) {
                case 0:
                    e = d;
                    break;
                case 1:
                    e = pc + near;
                    break;
                case 2:
                    e = accumulators[2] + near;
                    break;
                default:
                    e = accumulators[3] + near;
                    break;
            }
            e &= HIGHEST_ADDRESS;
            return (instruction & INDIRECT) == 0 ? e : endOfRow(e);
        }

        private int endOfRow(int start) {
            int e = start;
            for (int read = 0; read < LONGEST_ROW; read++) {
                int found = countAt(e, stepAt(e));
                e = found & HIGHEST_ADDRESS;
                if (found < HIGHEST_BIT) {
                    return e;
                }
            }
            return NONE;
        }

        private static int stepAt(int address) {
            if (address < 16 || address > 31) {
                return 0;
            }
            return address < 24 ? 1 : -1;
        }

        /** Does an arithmetic instruction; whether it skips. */
        private boolean calculate(int instruction) {
            int target = instruction >> 11 & 3;
            int s = accumulators[instruction >> 13 & 3];
            int sum = sumOf(instruction >> 8 & 7, s, accumulators[target]);
            int turned = baseOf(instruction >> 4 & 3) ^ sum >> 16;
            int shifted = shift(instruction >> 6 & 3, turned << 16 | sum & HIGHEST_WORD);
            int c = shifted >> 16;
            int result = shifted & HIGHEST_WORD;
            if ((instruction & NO_LOAD) == 0) {
                accumulators[target] = result;
                carry = c;
            }
            return skips(instruction & 7, c, result);
        }

        /** A sum of 17 bits. */
        private static int sumOf(int function, int s, int a) {
            int turned = s ^ HIGHEST_WORD;
            switch (function) {
                case 0: return turned;
                case 1: return turned + 1;
                case 2: return s;
                case 3: return s + 1;
                case 4: return a + turned;
                case 5: return a + turned + 1;
                case 6: return a + s;
                default: return a & s;
            }
        }

        private int baseOf(int base) {
            switch (base) {
                case 0: return carry;
                case 1: return 0;
                case 2: return 1;
                default: return 1 - carry;
            }
        }

        /** Carry stands in bit 16 over the word. */
        private static int shift(int how, int v) {
            switch (how) {
                case 0: return v;
                case 1: return (v << 1 | v >> 16) & (CARRY_BIT | HIGHEST_WORD);
                case 2: return v >> 1 | (v & 1) << 16;
                default: return v & CARRY_BIT | (v & 255) << 8 | v >> 8 & 255;
            }
        }

        private static boolean skips(int skip, int c, int result) {
            switch (skip) {
                case 0: return false;
                case 1: return true;
                case 2: return c == 0;
                case 3: return c != 0;
                case 4: return result == 0;
                case 5: return result != 0;
                case 6: return c == 0 || result == 0;
                default: return c != 0 && result != 0;
            }
        }

        private Device deviceAt(int number) {
            int i = number - FIRST_DEVICE;
            return i >= 0 && i < devices.length ? devices[i] : null;
        }

        /** Does an instruction of a device or of the machine as one; whether it skips. */
        private boolean operate(int instruction) {
            int a = instruction >> 11 & 3;
            int what = instruction >> 8 & 7;
            int control = instruction >> 6 & 3;
            int number = instruction & 63;
            if (number == CPU) {
                return operateMachine(a, what, control);
            }
            Device device = deviceAt(number);
            if (device == null) {
                return operateNothing(a, what, control);
            }
            if (what == 7) {
                return device.passes(control);
            }
            if ((what & 1) == 1) {
                accumulators[a] = device.input(what);
            } else {
                device.output(what, accumulators[a]);
            }
            if (control == 1) {
                device.start();
            } else if (control == 2) {
                device.stop();
            }
            return false;
        }

        private boolean operateNothing(int a, int what, int control) {
            if (what == 7) {
                return control == 1 || control == 3;
            }
            if ((what & 1) == 1) {
                accumulators[a] = 0;
            }
            return false;
        }

        private boolean operateMachine(int a, int what, int control) {
            switch (what) {
                case 1:
                    accumulators[a] = switches;
                    break;
                case 3:
                    accumulators[a] = askingDevice();
                    break;
                case 4:
                    mask = accumulators[a] & 7;
                    break;
                case 5:
                    stopDevices();
                    break;
                case 6:
                    ending = HALTED;
                    break;
                case 7:
                    return machinePasses(control);
                default:
                    break;
            }
            if (control == 1) {
                ion = true;
            } else if (control == 2) {
                ion = false;
            }
            return false;
        }

        private void stopDevices() {
            for (int i = 0; i < devices.length; i++) {
                devices[i].stop();
            }
            mask = 0;
        }

        private boolean machinePasses(int control) {
            switch (control) {
                case 0: return ion;
                case 1: return !ion;
                case 2: return false;
                default: return true;
            }
        }
    }

    /**
     * The statements with the bits that make each of them. The special names of device 77 stand
     * before the general ones that make the same words, so that the first one found is told. The
     * first two make no word: no bits of a word that are looked at are ever 1 there.
     */
    private enum Statement {
        LOC(".LOC", LOCATION, 1, 0),
        BLK(".BLK", BLOCK, 1, 0),
        JMP("JMP", JUMP, 0x0000, 0xF800),
        JSR("JSR", JUMP, 0x0800, 0xF800),
        ISZ("ISZ", JUMP, 0x1000, 0xF800),
        DSZ("DSZ", JUMP, 0x1800, 0xF800),
        LDA("LDA", MOVE, 0x2000, 0xE000),
        STA("STA", MOVE, 0x4000, 0xE000),
        COM("COM", ARITHMETIC, 0x8000, 0x8700),
        NEG("NEG", ARITHMETIC, 0x8100, 0x8700),
        MOV("MOV", ARITHMETIC, 0x8200, 0x8700),
        INC("INC", ARITHMETIC, 0x8300, 0x8700),
        ADC("ADC", ARITHMETIC, 0x8400, 0x8700),
        SUB("SUB", ARITHMETIC, 0x8500, 0x8700),
        ADD("ADD", ARITHMETIC, 0x8600, 0x8700),
        AND("AND", ARITHMETIC, 0x8700, 0x8700),
        INTEN("INTEN", BARE, 0x607F, 0xFFFF),
        INTDS("INTDS", BARE, 0x60BF, 0xFFFF),
        HALT("HALT", BARE, 0x663F, 0xFFFF),
        IORST("IORST", BARE, 0x653F, 0xFFFF),
        READS("READS", SINGLE, 0x613F, 0xE7FF),
        INTA("INTA", SINGLE, 0x633F, 0xE7FF),
        MSKO("MSKO", SINGLE, 0x643F, 0xE7FF),
        NIO("NIO", SIGNAL, 0x6000, 0xFF00),
        DIA("DIA", TRANSFER, 0x6100, 0xE700),
        DOA("DOA", TRANSFER, 0x6200, 0xE700),
        DIB("DIB", TRANSFER, 0x6300, 0xE700),
        DOB("DOB", TRANSFER, 0x6400, 0xE700),
        DIC("DIC", TRANSFER, 0x6500, 0xE700),
        DOC("DOC", TRANSFER, 0x6600, 0xE700),
        SKPBN("SKPBN", TEST, 0x6700, 0xFFC0),
        SKPBZ("SKPBZ", TEST, 0x6740, 0xFFC0),
        SKPDN("SKPDN", TEST, 0x6780, 0xFFC0),
        SKPDZ("SKPDZ", TEST, 0x67C0, 0xFFC0),
        WORD("", VALUE, 0, 0);

        private static final Statement[] ALL = values();

        final String letters;
        final int form;
        final int bits;
        final int fixed;
        final long key;

        Statement(String letters, int form, int bits, int fixed) {
            this.letters = letters;
            this.form = form;
            this.bits = bits;
            this.fixed = fixed;
            this.key = packed(letters);
        }

        /** The statement of this name, WORD if it is none's. */
        static Statement named(long key) {
            for (int i = 0; i < ALL.length; i++) {
                if (ALL[i].furtherBits(key) != NONE) {
                    return ALL[i];
                }
            }
            return WORD;
        }

        /** The first statement that can make this word; WORD makes all. */
        static Statement making(int v) {
            for (int i = 0; i < ALL.length; i++) {
                if ((v & ALL[i].fixed) == ALL[i].bits) {
                    return ALL[i];
                }
            }
            return WORD;
        }

        /** The bits of the letters behind the name proper; NONE if it is another name. */
        int furtherBits(long name) {
            boolean takesLetters = form == ARITHMETIC || form == SIGNAL || form == TRANSFER;
            if (!takesLetters) {
                return name == key ? 0 : NONE;
            }
            if (name >>> 40 != key >>> 40) {
                return NONE;
            }
            long rest = name << 24;
            int high = 0;
            if (form == ARITHMETIC) {
                high = BASES.indexOf((char) (rest >>> 56)) + 1;
                rest = high == 0 ? rest : rest << 8;
            }
            String last = form == ARITHMETIC ? SHIFTS : CONTROLS;
            int low = last.indexOf((char) (rest >>> 56)) + 1;
            rest = low == 0 ? rest : rest << 8;
            return rest == 0 ? high << 4 | low << 6 : NONE;
        }

        int leastOperands() {
            switch (form) {
                case BARE: return 0;
                case MOVE:
                case ARITHMETIC:
                case TRANSFER: return 2;
                default: return 1;
            }
        }

        int mostOperands() {
            boolean hasChoice = form == JUMP || form == MOVE || form == ARITHMETIC;
            return hasChoice ? leastOperands() + 1 : leastOperands();
        }

        /** Which operand may have '@' before it. */
        int addressOperand() {
            switch (form) {
                case JUMP: return 0;
                case MOVE: return 1;
                default: return NONE;
            }
        }
    }

    /** The names that have numbers in every text. */
    private enum Given {
        TTI("TTI", 8),
        TTO("TTO", 9),
        RTC("RTC", 10),
        MACHINE("CPU", CPU),
        SKP("SKP", 1),
        SZC("SZC", 2),
        SNC("SNC", 3),
        SZR("SZR", 4),
        SNR("SNR", 5),
        SEZ("SEZ", 6),
        SBN("SBN", 7);

        private static final Given[] ALL = values();

        final String letters;
        final int number;
        final long key;

        Given(String letters, int number) {
            this.letters = letters;
            this.number = number;
            this.key = packed(letters);
        }

        static int numberOf(long key) {
            for (int i = 0; i < ALL.length; i++) {
                if (ALL[i].key == key) {
                    return ALL[i].number;
                }
            }
            return NONE;
        }

        /** Skips are the only ones with numbers of 1 to 7. */
        static String skipName(int skip) {
            for (int i = 0; i < ALL.length; i++) {
                if (ALL[i].number == skip) {
                    return ALL[i].letters;
                }
            }
            return "";
        }
    }

    private static final class Labels {
        private final long[] keys = new long[MOST_LABELS];
        private final int[] places = new int[MOST_LABELS];
        private int count;

        int find(long key) {
            for (int i = 0; i < count; i++) {
                if (keys[i] == key) {
                    return places[i];
                }
            }
            return NONE;
        }

        /** False when there is no room for it. */
        boolean add(long key, int place) {
            if (count >= MOST_LABELS) {
                return false;
            }
            keys[count] = key;
            places[count] = place;
            count++;
            return true;
        }

        void clear() {
            count = 0;
        }
    }

    /** The text, and the items it is split into. */
    private static final class Items {
        private static final int KIND_BITS = 0xFFFF;

        private final char[] text = new char[MOST_TEXT];
        int length;
        // The lowest 16 bits are the kind; a name's key leaves them free, a number stands over them.
        private final long[] items = new long[MOST_TEXT + 1];
        int count;
        private int position;

        void appendFour(int packed) {
            for (int shift = 24; shift >= 0; shift -= 8) {
                if (length < MOST_TEXT) {
                    text[length] = (char) (packed >> shift & 255);
                    length++;
                }
            }
        }

        int kindAt(int i) {
            return i >= 0 && i < count ? (int) items[i] & KIND_BITS : LINE_END;
        }

        long nameAt(int i) {
            return i >= 0 && i < count ? items[i] & ~(long) KIND_BITS : 0;
        }

        int numberAt(int i) {
            return (int) (nameAt(i) >> 16);
        }

        /** Each line's items and a LINE_END behind them, behind the last line's too. */
        void split() {
            count = 0;
            position = 0;
            for (int read = 0; read < MOST_TEXT && position < length; read++) {
                splitNext();
            }
            add(LINE_END);
        }

        private void splitNext() {
            char c = text[position];
            if (goesOn(c)) {
                splitLetters(c);
                return;
            }
            position++;
            if (c == LINE_END) {
                add(LINE_END);
            } else if (c == ';') {
                skipLine();
            } else if (c != ' ' && c != '\t') {
                add(SIGNS.indexOf(c) >= 0 ? c : BAD);
            }
        }

        private void skipLine() {
            while (position < length && text[position] != LINE_END) {
                position++;
            }
        }

        private void splitLetters(char first) {
            int start = position;
            while (position < length && goesOn(text[position])) {
                position++;
            }
            add(isDigit(first) ? numberFrom(start) : nameFrom(start));
        }

        private long numberFrom(int start) {
            long number = 0;
            for (int i = start; i < position; i++) {
                char c = text[i];
                if (c < '0' || c > '7') {
                    return BAD;
                }
                number = Math.min(number * 8 + (c - '0'), HIGHEST_WORD + 1);
            }
            return number > HIGHEST_WORD ? BAD : number << 16 | NUMBER;
        }

        private long nameFrom(int start) {
            if (position - start > LONGEST_NAME) {
                return BAD;
            }
            long key = 0;
            for (int i = start; i < position; i++) {
                key |= (long) text[i] << (56 - 8 * (i - start));
            }
            return key | NAME;
        }

        private void add(long item) {
            if (count < items.length) {
                items[count] = item;
                count++;
            }
        }

        private static boolean goesOn(char c) {
            return c >= 'A' && c <= 'Z' || c == '.' || isDigit(c);
        }

        private static boolean isDigit(char c) {
            return c >= '0' && c <= '9';
        }
    }

    /** Goes through the text twice; only the first fault is kept, so reading may simply go on. */
    private static final class Assembler {
        private static final long HERE = (long) '.' << 56;

        final Items items = new Items();
        Labels latest = new Labels();
        private Labels fresh = new Labels();
        // Words wait here until the whole text is known to be without a fault.
        private final int[] places = new int[MOST_WORDS];
        private final int[] words = new int[MOST_WORDS];
        private int made;
        private final int[] operands = new int[MOST_OPERANDS];
        private int operandCount;
        private boolean indirect;
        private int at;
        private int location;
        private int line;
        int faultNumber;
        int faultLine;

        void clear() {
            items.length = 0;
            latest.clear();
            faultNumber = 0;
            faultLine = 0;
        }

        void begin() {
            items.split();
            fresh.clear();
            made = 0;
            faultNumber = 0;
            faultLine = 0;
        }

        /** How many words were put, or -1. */
        int finish(Machine machine) {
            items.length = 0;
            if (faultNumber != 0) {
                return -1;
            }
            for (int i = 0; i < made; i++) {
                machine.store(places[i], words[i]);
            }
            Labels former = latest;
            latest = fresh;
            fresh = former;
            return made;
        }

        void goThrough(boolean isFirst) {
            location = 0;
            line = 0;
            int start = 0;
            for (int i = 0; i < items.count && faultNumber == 0; i++) {
                if (items.kindAt(i) == LINE_END) {
                    line++;
                    at = start;
                    readLine(isFirst);
                    start = i + 1;
                }
            }
        }

        private void complain(int number) {
            if (faultNumber == 0) {
                faultNumber = number;
                faultLine = line;
            }
        }

        private void readLine(boolean isFirst) {
            readLabels(isFirst);
            int kind = look();
            if (kind == LINE_END) {
                return;
            }
            if (kind != NAME && kind != NUMBER && kind != '+' && kind != '-') {
                complain(WRONG_ITEM);
                return;
            }
            Statement statement = kind == NAME ? Statement.named(items.nameAt(at)) : Statement.WORD;
            if (statement.form == LOCATION || statement.form == BLOCK) {
                readStatement(statement);
                moveLocation(statement.form);
                return;
            }
            if (!isFirst) {
                int further = readStatement(statement);
                keepWord(statement.bits | further | operandBits(statement.form));
            }
            takePlace();
        }

        /** The kind of the item that comes now; one that is none is a fault as soon as it is met. */
        private int look() {
            int kind = items.kindAt(at);
            if (kind == BAD) {
                complain(NO_ITEM);
            }
            return kind;
        }

        /** Whether this sign comes now; it is passed then. */
        private boolean takes(char sign) {
            if (look() != sign) {
                return false;
            }
            at++;
            return true;
        }

        private void readLabels(boolean isFirst) {
            for (int read = 0; read < items.count && look() == NAME; read++) {
                long key = items.nameAt(at);
                at++;
                if (!takes(':')) {
                    at--;
                    return;
                }
                if (isFirst) {
                    define(key);
                }
            }
        }

        private void define(long key) {
            boolean isTaken = key == HERE || Given.numberOf(key) != NONE
                    || Statement.named(key) != Statement.WORD || fresh.find(key) != NONE;
            if (isTaken) {
                complain(WRONG_LABEL);
            } else if (!fresh.add(key, location)) {
                complain(NO_ROOM);
            }
        }

        /** Reads all that stands behind the labels; the bits of the name's letters and of '#'. */
        private int readStatement(Statement statement) {
            int further = 0;
            if (statement != Statement.WORD) {
                further = statement.furtherBits(items.nameAt(at));
                at++;
            }
            if (statement.form == ARITHMETIC && takes('#')) {
                further |= NO_LOAD;
            }
            indirect = false;
            operandCount = 0;
            int most = Math.min(statement.mostOperands(), MOST_OPERANDS);
            for (int i = 0; i < most && (i == 0 || takes(',')); i++) {
                if (i == statement.addressOperand() && takes('@')) {
                    indirect = true;
                }
                operands[i] = readExpression();
                operandCount = i + 1;
            }
            if (operandCount < statement.leastOperands() || look() != LINE_END) {
                complain(WRONG_ITEM);
            }
            return further;
        }

        private int readExpression() {
            boolean isMinus = takes('-');
            if (!isMinus) {
                takes('+');
            }
            int sum = 0;
            for (int read = 0; read < MOST_TEXT; read++) {
                int term = readTerm();
                sum += isMinus ? -term : term;
                isMinus = takes('-');
                if (!isMinus && !takes('+')) {
                    break;
                }
            }
            return sum & HIGHEST_WORD;
        }

        private int readTerm() {
            int kind = look();
            if (kind != NAME && kind != NUMBER) {
                complain(WRONG_ITEM);
                return 0;
            }
            int term = kind == NAME ? numberOf(items.nameAt(at)) : items.numberAt(at);
            if (term == NONE) {
                complain(NO_NUMBER);
            }
            at++;
            return term;
        }

        private int numberOf(long key) {
            if (key == HERE) {
                return location;
            }
            int given = Given.numberOf(key);
            return given != NONE ? given : fresh.find(key);
        }

        private void moveLocation(int form) {
            if (form == LOCATION) {
                location = bounded(0, HIGHEST_ADDRESS);
                return;
            }
            location += operands[0];
            if (location > MEMORY_SIZE) {
                complain(NO_ROOM);
            }
        }

        private void takePlace() {
            if (location >= MEMORY_SIZE) {
                complain(NO_ROOM);
            }
            location++;
        }

        private void keepWord(int v) {
            if (made < MOST_WORDS) {
                places[made] = location;
                words[made] = v;
                made++;
            }
        }

        private int operandBits(int form) {
            switch (form) {
                case JUMP: return addressBits(0);
                case MOVE: return bounded(0, 3) << 11 | addressBits(1);
                case ARITHMETIC: return bounded(0, 3) << 13 | bounded(1, 3) << 11 | skipBits();
                case SIGNAL:
                case TEST: return bounded(0, 63);
                case TRANSFER: return bounded(0, 3) << 11 | bounded(1, 63);
                case SINGLE: return bounded(0, 3) << 11;
                case VALUE: return operands[0];
                default: return 0;
            }
        }

        private int bounded(int operand, int highest) {
            int v = operand >= 0 && operand < MOST_OPERANDS ? operands[operand] : 0;
            if (v > highest) {
                complain(BEYOND_BOUND);
            }
            return v;
        }

        private int skipBits() {
            return operandCount > 2 ? bounded(2, 7) : 0;
        }

        private int addressBits(int operand) {
            int e = bounded(operand, HIGHEST_WORD);
            boolean hasMode = operandCount > operand + 1;
            int mode = hasMode ? bounded(operand + 1, 3) : e < 256 ? 0 : 1;
            if (!hasMode && mode == 1) {
                return addressBitsOf(mode, e - location);
            }
            // What the upper half of all words stands for is a number below 0 in modes 1 to 3.
            return addressBitsOf(mode, mode != 0 && e >= HIGHEST_BIT ? e - HIGHEST_WORD - 1 : e);
        }

        private int addressBitsOf(int mode, int d) {
            boolean isAllowed = mode == 0 ? isWithin(d, 255) : d >= -128 && d <= 127;
            if (!isAllowed) {
                complain(WRONG_ADDRESS);
            }
            return (indirect ? INDIRECT : 0) | mode << 8 | d & 255;
        }
    }

    /** Writes a word as the assembler's statement. */
    private static final class Teller {
        private final char[] characters = new char[LONGEST_TOLD];
        private int length;

        void clear() {
            length = 0;
        }

        int characterAt(int i) {
            return i >= 0 && i < length ? characters[i] : NONE;
        }

        int describe(int v) {
            length = 0;
            Statement statement = Statement.making(v);
            writeText(statement.letters);
            switch (statement.form) {
                case JUMP:
                    write(' ');
                    writeAddress(v);
                    break;
                case MOVE:
                    write(' ');
                    writeNumber(v >> 11 & 3);
                    write(',');
                    writeAddress(v);
                    break;
                case ARITHMETIC:
                    writeArithmetic(v);
                    break;
                case SIGNAL:
                case TRANSFER:
                    writeTransfer(v, statement.form == TRANSFER);
                    break;
                case TEST:
                    write(' ');
                    writeNumber(v & 63);
                    break;
                case SINGLE:
                    write(' ');
                    writeNumber(v >> 11 & 3);
                    break;
                case VALUE:
                    writeNumber(v);
                    break;
                default:
                    break;
            }
            return length;
        }

        private void writeAddress(int v) {
            int mode = v >> 8 & 3;
            int d = v & 255;
            if ((v & INDIRECT) != 0) {
                write('@');
            }
            if (mode == 0) {
                writeNumber(d);
                return;
            }
            writeNumber(d < 128 ? d : d - 256 & HIGHEST_WORD);
            write(',');
            writeNumber(mode);
        }

        private void writeArithmetic(int v) {
            writeLetter(BASES, v >> 4 & 3);
            writeLetter(SHIFTS, v >> 6 & 3);
            if ((v & NO_LOAD) != 0) {
                write('#');
            }
            write(' ');
            writeNumber(v >> 13 & 3);
            write(',');
            writeNumber(v >> 11 & 3);
            if ((v & 7) != 0) {
                write(',');
                writeText(Given.skipName(v & 7));
            }
        }

        private void writeTransfer(int v, boolean hasAccumulator) {
            writeLetter(CONTROLS, v >> 6 & 3);
            write(' ');
            if (hasAccumulator) {
                writeNumber(v >> 11 & 3);
                write(',');
            }
            writeNumber(v & 63);
        }

        /** None for 0. */
        private void writeLetter(String letters, int which) {
            if (which >= 1 && which <= letters.length()) {
                write(letters.charAt(which - 1));
            }
        }

        /** To the base 8, without zeros in front; a word has six such digits at most. */
        private void writeNumber(int v) {
            for (int shift = 15; shift >= 0; shift -= 3) {
                if (shift == 0 || v >> shift != 0) {
                    write((char) ('0' + (v >> shift & 7)));
                }
            }
        }

        private void writeText(String letters) {
            for (int i = 0; i < letters.length(); i++) {
                write(letters.charAt(i));
            }
        }

        private void write(char c) {
            if (length < LONGEST_TOLD) {
                characters[length] = c;
                length++;
            }
        }
    }
}
