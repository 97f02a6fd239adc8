import java.util.Arrays;
import java.util.NoSuchElementException;

/**
 * A microcoded processor, a store of micro-words that callers write and patch, and programs of two
 * sets of instructions on it.
 */
public final class MicrostoreWorks {
    private static final int NONE = -1;
    private static final int BYTES = 256;
    private static final int CELLS = 64;
    private static final int PAGES = 4;
    private static final int PAGE_CELLS = 16;
    private static final int REGISTERS = 4;
    private static final int ADDRESSES = 80;
    private static final int FIXED_ADDRESSES = 64;
    private static final int SETS = 2;
    private static final int OPERATIONS = 16;
    private static final int PREFIX = 15;
    private static final int MOST_PREFIXES = 64;
    private static final int MOST_RETURNS = 4;
    private static final int MOST_CATCHES = 4;
    private static final int MOST_STEPS = 100;
    private static final int MOST_INSTRUCTIONS = 20;
    private static final int MOST_STEPS_OF_A_RUN = 200;
    private static final int MOST_WAIT = 9;
    private static final int FIRST_VECTOR = 48;

    private static final int DRIVERS = 128;
    private static final int COMBINATIONS = 8;
    private static final int LISTENERS = 256;
    private static final int MEMORY_ACTIONS = 3;
    private static final int TESTS = 8;

    private static final int DRIVES_T = 1;
    private static final int DRIVES_U = 2;
    private static final int DRIVES_D = 4;
    private static final int DRIVES_P = 8;
    private static final int DRIVES_FIRST = 16;
    private static final int DRIVES_SECOND = 32;
    private static final int DRIVES_CONSTANT = 64;

    private static final int LISTENS_T = 1;
    private static final int LISTENS_U = 2;
    private static final int LISTENS_A = 4;
    private static final int LISTENS_D = 8;
    private static final int LISTENS_P = 16;
    private static final int LISTENS_FIRST = 32;
    private static final int LISTENS_SECOND = 64;
    private static final int LISTENS_X = 128;

    private static final int NO_ACTION = 0;
    private static final int READS = 1;
    private static final int WRITES = 2;

    private static final int TESTS_ZERO = 1;
    private static final int TESTS_CARRY = 2;
    private static final int TESTS_INTERRUPT = 4;

    private static final char RUNS = 'r';
    private static final char WAITS = 'w';
    private static final char LOST = 'l';

    private static final String ORDERS = "nocrdpeskgq";
    private static final String ENDING_ORDERS = "eskg";
    private static final String PARTS = "PZCSIKTUADXE";
    private static final String DEFINED_PARTS = "PZCSIK0123";

    private final Store store;
    private final Memory memory;
    private final Counts counts;
    private final Processor processor;
    private final Checker checker;

    public MicrostoreWorks() {
        store = new Store();
        memory = new Memory();
        counts = new Counts();
        processor = new Processor(store, memory, counts);
        checker = new Checker(store);
    }

    // ---- micro-words

    public int write(int address, int drive, int combine, int listen, int memory, char order, int number, int more)
            throws IndexOutOfBoundsException, IllegalArgumentException, UnsupportedOperationException {
        requireIndex(address, FIXED_ADDRESSES);
        requireNumber(combine, 0, COMBINATIONS - 1);
        requireNumber(number, 0, ADDRESSES - 1);
        requireNumber(more, 0, 2 * TESTS - 1);
        requireWord(drive, listen, memory, order, more / 2);
        if (reasonAgainst(drive, listen, memory, order, more / 2) != '-') {
            throw new UnsupportedOperationException("the word is forbidden");
        }
        Word word = store.claim(address);
        word.drive = drive;
        word.combine = combine;
        word.listen = listen;
        word.memory = memory;
        word.order = order;
        word.number = number;
        word.tests = more / 2;
        word.tellsFlags = more % 2 == 1;
        word.constant = 0;
        return store.wordCount;
    }

    public int patch(int address, int from, int number)
            throws IndexOutOfBoundsException, IllegalArgumentException, NoSuchElementException {
        requireIndex(address, ADDRESSES);
        if (address < FIXED_ADDRESSES) {
            throw new IndexOutOfBoundsException("the writable store has no such address");
        }
        requireIndex(from, ADDRESSES);
        requireNumber(number, 0, ADDRESSES - 1);
        Word source = store.wordAt(from);
        if (source == null) {
            throw new NoSuchElementException("there is no word to copy");
        }
        Word word = store.claim(address);
        word.copyFrom(source);
        word.number = number;
        return store.wordCount;
    }

    public int setConstant(int address, int constant)
            throws IndexOutOfBoundsException, IllegalArgumentException, NoSuchElementException {
        requireIndex(address, ADDRESSES);
        requireNumber(constant, 0, BYTES - 1);
        Word word = store.wordAt(address);
        if (word == null) {
            throw new NoSuchElementException("there is no word");
        }
        int before = word.constant;
        word.constant = constant;
        return before;
    }

    public char reason(int drive, int listen, int memory, char order, int tests) throws IllegalArgumentException {
        requireWord(drive, listen, memory, order, tests);
        return reasonAgainst(drive, listen, memory, order, tests);
    }

    public int reserve(int words) throws IllegalArgumentException, IllegalStateException {
        if (words != 1 && words != 2 && words != 4 && words != 8) {
            throw new IllegalArgumentException("there is no such number of words");
        }
        int first = store.reserveBlock(words);
        if (first == NONE) {
            throw new IllegalStateException("there are no such addresses");
        }
        return first;
    }

    public int free() {
        return store.freeCount();
    }

    public int setEntry(int set, int operation, int address)
            throws IndexOutOfBoundsException, IllegalArgumentException {
        requireIndex(set, SETS);
        requireIndex(operation, OPERATIONS);
        requireNumber(address, NONE, ADDRESSES - 1);
        return store.replaceEntry(set, operation, address);
    }

    public int setCatch(int address, int to)
            throws IndexOutOfBoundsException, IllegalArgumentException, NoSuchElementException, IllegalStateException {
        requireIndex(address, ADDRESSES);
        if (to != NONE) {
            requireNumber(to, FIXED_ADDRESSES, ADDRESSES - 1);
        }
        boolean isCaught = store.isCaught(address);
        if (to == NONE && !isCaught) {
            throw new NoSuchElementException("there is no such catch");
        }
        if (to != NONE && !isCaught && store.catchCount >= MOST_CATCHES) {
            throw new IllegalStateException("there are catches enough");
        }
        store.replaceCatch(address, to);
        return store.catchCount;
    }

    // ---- programs and what comes from outside

    public int setCell(int cell, int value)
            throws IndexOutOfBoundsException, IllegalArgumentException, IllegalStateException {
        requireIndex(cell, CELLS);
        requireNumber(value, 0, BYTES - 1);
        requireNotBegun();
        return memory.replace(cell, value);
    }

    public int setRegister(int register, int value)
            throws IndexOutOfBoundsException, IllegalArgumentException, IllegalStateException {
        requireIndex(register, REGISTERS);
        requireNumber(value, 0, BYTES - 1);
        requireNotBegun();
        return processor.replaceRegister(register, value);
    }

    public int start(int place, int set, boolean isOpen) throws IllegalArgumentException, IllegalStateException {
        requireNumber(place, 0, CELLS - 1);
        requireNumber(set, 0, SETS - 1);
        requireNotBegun();
        return processor.startAt(place, set, isOpen ? 1 : 0);
    }

    public boolean setPage(int page, boolean isPresent) throws IndexOutOfBoundsException {
        requireIndex(page, PAGES);
        boolean wasPresent = memory.replacePage(page, isPresent);
        if (isPresent) {
            processor.pageCame(page);
        }
        return wasPresent;
    }

    public int setWait(int cycles) throws IllegalArgumentException {
        requireNumber(cycles, 0, MOST_WAIT);
        int before = processor.waitCycles;
        processor.waitCycles = cycles;
        return before;
    }

    public int setVector(int place) throws IllegalArgumentException {
        requireNumber(place, 0, CELLS - 1);
        int before = processor.vector;
        processor.vector = place;
        return before;
    }

    public boolean interrupt() {
        boolean before = processor.interruptWaits;
        processor.interruptWaits = true;
        return before;
    }

    public int reset() {
        int before = processor.nextAddress;
        processor.takeBack();
        processor.comeBack();
        return before;
    }

    public int step(int steps) throws IllegalArgumentException {
        requireNumber(steps, 1, MOST_STEPS);
        for (int done = 0; done < steps; done++) {
            if (!processor.advance()) {
                return done;
            }
        }
        return steps;
    }

    public int run(int instructions) throws IllegalArgumentException {
        requireNumber(instructions, 1, MOST_INSTRUCTIONS);
        int before = counts.ended;
        for (int done = 0; done < MOST_STEPS_OF_A_RUN && counts.ended - before < instructions; done++) {
            if (!processor.advance()) {
                break;
            }
        }
        return counts.ended - before;
    }

    // ---- parts

    public char state() {
        return processor.mode;
    }

    public int cell(int cell) throws IndexOutOfBoundsException {
        requireIndex(cell, CELLS);
        return memory.at(cell);
    }

    public int register(int register) throws IndexOutOfBoundsException {
        requireIndex(register, REGISTERS);
        return processor.now.registers[register];
    }

    public int part(char part) throws IllegalArgumentException {
        if (PARTS.indexOf(part) < 0) {
            throw new IllegalArgumentException("there is no such part");
        }
        return processor.valueOf(part);
    }

    public int next() {
        return processor.nextAddress;
    }

    public int returns() {
        return processor.rowCount;
    }

    public int bus() {
        return processor.lastBus;
    }

    public int drivers() {
        return processor.lastDrivers;
    }

    // ---- the checker and definitions

    public int unset(int address) throws IndexOutOfBoundsException {
        requireIndex(address, ADDRESSES);
        checker.goAllWays(address);
        return checker.readAhead;
    }

    public int reached(int address) throws IndexOutOfBoundsException {
        requireIndex(address, ADDRESSES);
        checker.goAllWays(address);
        return checker.reachedCount;
    }

    public int defined(char part) throws IllegalArgumentException, UnsupportedOperationException {
        if (DEFINED_PARTS.indexOf(part) < 0) {
            throw new IllegalArgumentException("there is no such part");
        }
        Definition definition = processor.define();
        if (!definition.isDefined) {
            throw new UnsupportedOperationException("the instruction is undefined");
        }
        return definition.after.valueOf(part);
    }

    // ---- counts

    public int ended() {
        return counts.ended;
    }

    public int wrong() {
        return counts.wrong;
    }

    public int firstWrong() throws NoSuchElementException {
        if (counts.wrong == 0) {
            throw new NoSuchElementException("no instruction was wrong");
        }
        return counts.firstWrongPlace;
    }

    public int fights() {
        return counts.fights;
    }

    public int faults() {
        return counts.faults;
    }

    public int taken() {
        return counts.taken;
    }

    public int found() {
        return counts.found;
    }

    public long cycles() {
        return counts.allCycles;
    }

    public long cyclesOf(int set, int operation) throws IndexOutOfBoundsException {
        requireIndex(set, SETS);
        requireIndex(operation, OPERATIONS);
        return counts.operationCycles[set * OPERATIONS + operation];
    }

    public float usedShare() throws ArithmeticException {
        if (counts.allCycles == 0) {
            throw new ArithmeticException("there were no cycles");
        }
        return (float) counts.usedCycles / (float) counts.allCycles;
    }

    public double meanCycles() throws ArithmeticException {
        if (counts.ended == 0) {
            throw new ArithmeticException("no instruction ended");
        }
        return (double) counts.usedCycles / (double) counts.ended;
    }

    public boolean isSound() {
        return processor.hasSoundParts() && processor.rowCount <= MOST_RETURNS
                && counts.usedCycles <= counts.allCycles && processor.isKeptIfNotBegun();
    }

    // ---- what several calls ask

    private static boolean isOutside(int value, int bound) {
        return value < 0 || value >= bound;
    }

    private static void requireIndex(int value, int bound) {
        if (isOutside(value, bound)) {
            throw new IndexOutOfBoundsException("there is no such number");
        }
    }

    private static void requireNumber(int value, int least, int most) {
        if (value < least || value > most) {
            throw new IllegalArgumentException("the number is out of range");
        }
    }

    private static void requireWord(int drive, int listen, int memory, char order, int tests) {
        requireNumber(drive, 0, DRIVERS - 1);
        requireNumber(listen, 0, LISTENERS - 1);
        requireNumber(memory, 0, MEMORY_ACTIONS - 1);
        requireNumber(tests, 0, TESTS - 1);
        if (ORDERS.indexOf(order) < 0) {
            throw new IllegalArgumentException("there is no such order");
        }
    }

    private void requireNotBegun() {
        if (processor.hasBegun) {
            throw new IllegalStateException("an instruction has begun");
        }
    }

    private static char reasonAgainst(int drive, int listen, int memory, char order, int tests) {
        if (memory == READS && (listen & LISTENS_D) != 0) {
            return 'd';
        }
        if ((listen & LISTENS_FIRST) != 0 && (listen & LISTENS_SECOND) != 0) {
            return 'r';
        }
        if ((order == 'c' || order == 'r') && memory != NO_ACTION) {
            return 'm';
        }
        if (tests != 0 && order != 'o') {
            return 't';
        }
        if ((drive & DRIVES_CONSTANT) != 0 && order == 'o') {
            return 'k';
        }
        return '-';
    }

    private static int resultOf(int combine, int left, int bus) {
        switch (combine) {
            case 1:
                return (left + bus) & (BYTES - 1);
            case 2:
                return (left - bus) & (BYTES - 1);
            case 3:
                return left & bus;
            case 4:
                return left ^ bus;
            case 5:
                return (bus + 1) & (BYTES - 1);
            case 6:
                return (bus - 1) & (BYTES - 1);
            case 7:
                return bus >> 1;
            default:
                return bus;
        }
    }

    private static boolean hasCarry(int combine, int left, int bus) {
        switch (combine) {
            case 1:
                return left + bus >= BYTES;
            case 2:
                return left < bus;
            case 5:
                return bus == BYTES - 1;
            case 6:
                return bus == 0;
            case 7:
                return (bus & 1) == 1;
            default:
                return false;
        }
    }

    /** A micro-word. */
    private static final class Word {
        int drive;
        int combine;
        int listen;
        int memory;
        char order;
        int number;
        int tests;
        boolean tellsFlags;
        int constant;

        void copyFrom(Word other) {
            drive = other.drive;
            combine = other.combine;
            listen = other.listen;
            memory = other.memory;
            order = other.order;
            number = other.number;
            tests = other.tests;
            tellsFlags = other.tellsFlags;
            constant = other.constant;
        }

        /** The hidden parts, as a sum of their listening bits, that the word reads as they were ahead of it. */
        int partsRead() {
            int parts = 0;
            if ((drive & DRIVES_T) != 0 || combine >= 1 && combine <= 4) {
                parts |= LISTENS_T;
            }
            if ((drive & DRIVES_U) != 0) {
                parts |= LISTENS_U;
            }
            if (memory != NO_ACTION && (listen & LISTENS_A) == 0) {
                parts |= LISTENS_A;
            }
            if ((drive & DRIVES_D) != 0 || memory == WRITES && (listen & LISTENS_D) == 0) {
                parts |= LISTENS_D;
            }
            return parts;
        }

        int partsSet() {
            int parts = listen & (LISTENS_T | LISTENS_U | LISTENS_A | LISTENS_D);
            return memory == READS ? parts | LISTENS_D : parts;
        }
    }

    /** The micro-words, what is reserved for them, the table of entries and the catches. */
    private static final class Store {
        final Word[] words = new Word[ADDRESSES];
        final boolean[] isReserved = new boolean[FIXED_ADDRESSES];
        final int[] entries = new int[SETS * OPERATIONS];
        final int[] catches = new int[ADDRESSES];
        int wordCount;
        int catchCount;

        Store() {
            Arrays.fill(entries, NONE);
            Arrays.fill(catches, NONE);
        }

        Word wordAt(int address) {
            return isOutside(address, ADDRESSES) ? null : words[address];
        }

        /** The word at the address, made there if there is none. */
        Word claim(int address) {
            Word word = words[address];
            if (word == null) {
                word = new Word();
                words[address] = word;
                wordCount++;
            }
            return word;
        }

        boolean isFree(int address) {
            return words[address] == null && !isReserved[address];
        }

        int freeCount() {
            int count = 0;
            for (int address = 0; address < FIXED_ADDRESSES; address++) {
                if (isFree(address)) {
                    count++;
                }
            }
            return count;
        }

        int reserveBlock(int size) {
            for (int first = 0; first + size <= FIXED_ADDRESSES; first += size) {
                if (isFreeBlock(first, size)) {
                    for (int address = first; address < first + size; address++) {
                        isReserved[address] = true;
                    }
                    return first;
                }
            }
            return NONE;
        }

        boolean isFreeBlock(int first, int size) {
            for (int address = first; address < first + size; address++) {
                if (!isFree(address)) {
                    return false;
                }
            }
            return true;
        }

        int entryOf(int set, int operation) {
            return entries[(set & 1) * OPERATIONS + (operation & (OPERATIONS - 1))];
        }

        int replaceEntry(int set, int operation, int address) {
            int before = entryOf(set, operation);
            entries[(set & 1) * OPERATIONS + (operation & (OPERATIONS - 1))] = address;
            return before;
        }

        boolean isCaught(int address) {
            return !isOutside(address, ADDRESSES) && catches[address] != NONE;
        }

        void replaceCatch(int address, int to) {
            if (isCaught(address)) {
                catchCount--;
            }
            catches[address] = to;
            if (isCaught(address)) {
                catchCount++;
            }
        }

        /** Where the way goes on if an order tells the address. */
        int followed(int address) {
            return isCaught(address) ? catches[address] : address;
        }
    }

    /** The registers, places, flags, set and gate that an instruction is judged by. */
    private static final class Visible {
        final int[] registers = new int[REGISTERS];
        int place;
        int keptPlace;
        int zero;
        int carry;
        int set;
        int gate;

        void copyFrom(Visible other) {
            for (int i = 0; i < REGISTERS; i++) {
                registers[i] = other.registers[i];
            }
            place = other.place;
            keptPlace = other.keptPlace;
            zero = other.zero;
            carry = other.carry;
            set = other.set;
            gate = other.gate;
        }

        boolean isAs(Visible other) {
            for (int i = 0; i < REGISTERS; i++) {
                if (registers[i] != other.registers[i]) {
                    return false;
                }
            }
            return place == other.place && keptPlace == other.keptPlace && zero == other.zero
                    && carry == other.carry && set == other.set && gate == other.gate;
        }

        void setFlags(boolean isZero, boolean isCarry) {
            zero = isZero ? 1 : 0;
            carry = isCarry ? 1 : 0;
        }

        /** What a part holds, named by its letter or, for a register, by its digit. */
        int valueOf(char part) {
            switch (part) {
                case 'P':
                    return place;
                case 'Z':
                    return zero;
                case 'C':
                    return carry;
                case 'S':
                    return set;
                case 'I':
                    return gate;
                case 'K':
                    return keptPlace;
                default:
                    return registers[(part - '0') & (REGISTERS - 1)];
            }
        }
    }

    /** The cells and their pages, with what the cells were when the instruction began. */
    private static final class Memory {
        final int[] cells = new int[CELLS];
        final int[] kept = new int[CELLS];
        final boolean[] isAbsent = new boolean[PAGES];
        // Only what was written is taken back, kept and judged: most instructions write no cell.
        final int[] written = new int[CELLS];
        final boolean[] isWritten = new boolean[CELLS];
        int writtenCount;

        int at(int place) {
            return cells[place & (CELLS - 1)];
        }

        void put(int place, int value) {
            int index = place & (CELLS - 1);
            cells[index] = value;
            if (!isWritten[index] && writtenCount < CELLS) {
                isWritten[index] = true;
                written[writtenCount] = index;
                writtenCount++;
            }
        }

        int replace(int cell, int value) {
            int before = cells[cell];
            cells[cell] = value;
            kept[cell] = value;
            return before;
        }

        boolean isAbsentAt(int place) {
            return isAbsent[pageOf(place)];
        }

        int pageOf(int place) {
            return (place & (CELLS - 1)) / PAGE_CELLS;
        }

        boolean replacePage(int page, boolean isPresent) {
            boolean wasPresent = !isAbsent[page];
            isAbsent[page] = !isPresent;
            return wasPresent;
        }

        void keep() {
            for (int i = 0; i < writtenCount; i++) {
                int index = written[i] & (CELLS - 1);
                kept[index] = cells[index];
                isWritten[index] = false;
            }
            writtenCount = 0;
        }

        void takeBack() {
            for (int i = 0; i < writtenCount; i++) {
                int index = written[i] & (CELLS - 1);
                cells[index] = kept[index];
                isWritten[index] = false;
            }
            writtenCount = 0;
        }

        /** Whether the cells are as they were kept, but for one, if it is not none, that is another byte. */
        boolean isKeptBut(int changed, int value) {
            if (changed != NONE && at(changed) != value) {
                return false;
            }
            for (int i = 0; i < writtenCount; i++) {
                int index = written[i] & (CELLS - 1);
                if (index != changed && cells[index] != kept[index]) {
                    return false;
                }
            }
            return true;
        }
    }

    /** What an instruction must do, made of what was kept when it began. */
    private static final class Definition {
        final Visible after = new Visible();
        boolean isDefined;
        int operation;
        int first;
        int second;
        int changedCell;
        int changedByte;

        void decode(Visible before, int[] cells) {
            after.copyFrom(before);
            changedCell = NONE;
            int prefixes = 0;
            int instruction = takeByte(cells);
            while (before.set == 1 && instruction / OPERATIONS == PREFIX && prefixes < MOST_PREFIXES) {
                instruction = takeByte(cells);
                prefixes++;
            }
            isDefined = prefixes < MOST_PREFIXES;
            operation = instruction / OPERATIONS;
            if (before.set == 1) {
                operation = PREFIX - 1 - operation;
            }
            boolean isExchanged = prefixes % 2 == 1;
            int low = instruction & (REGISTERS - 1);
            int high = (instruction / REGISTERS) & (REGISTERS - 1);
            first = isExchanged ? high : low;
            second = isExchanged ? low : high;
        }

        void carryOut(int[] cells) {
            int[] registers = after.registers;
            int d = first & (REGISTERS - 1);
            int s = second & (REGISTERS - 1);
            switch (operation) {
                case 1:
                    registers[d] = registers[s];
                    break;
                case 2:
                    combineInto(d, 1, registers[s]);
                    break;
                case 3:
                    combineInto(d, 2, registers[s]);
                    break;
                case 4:
                    combineInto(d, 3, registers[s]);
                    break;
                case 5:
                    combineInto(d, 5, registers[d]);
                    break;
                case 6:
                    registers[d] = takeByte(cells);
                    break;
                case 7:
                    registers[d] = cells[registers[s] & (CELLS - 1)];
                    break;
                case 8:
                    changedCell = registers[s] & (CELLS - 1);
                    changedByte = registers[d];
                    break;
                case 9:
                    jumpIf(after.zero == 1, cells);
                    break;
                case 10:
                    jumpIf(after.carry == 1, cells);
                    break;
                case 11:
                    jumpIf(true, cells);
                    break;
                case 12:
                    registers[d] = cells[registers[s] & (CELLS - 1)];
                    registers[s] = (registers[s] + 1) & (BYTES - 1);
                    break;
                case 13:
                    after.set = 1 - after.set;
                    break;
                case 14:
                    after.place = after.keptPlace;
                    after.gate = 1;
                    break;
                case 15:
                    after.gate = registers[d] & 1;
                    break;
                default:
                    break;
            }
        }

        private int takeByte(int[] cells) {
            int value = cells[after.place & (CELLS - 1)];
            after.place = (after.place + 1) & (CELLS - 1);
            return value;
        }

        private void combineInto(int d, int combine, int bus) {
            int left = after.registers[d & (REGISTERS - 1)];
            int result = resultOf(combine, left, bus);
            after.setFlags(result == 0, hasCarry(combine, left, bus));
            after.registers[d & (REGISTERS - 1)] = result;
        }

        private void jumpIf(boolean isDue, int[] cells) {
            int target = takeByte(cells) & (CELLS - 1);
            if (isDue) {
                after.place = target;
            }
        }
    }

    /** By what the flags can be found that a word has told. */
    private static final class LateFlags {
        boolean areTold;
        int combine;
        int left;
        int bus;

        void tell(int toldCombine, int toldLeft, int toldBus) {
            areTold = true;
            combine = toldCombine;
            left = toldLeft;
            bus = toldBus;
        }

        boolean isZero() {
            return resultOf(combine, left, bus) == 0;
        }

        boolean isCarry() {
            return hasCarry(combine, left, bus);
        }
    }

    /** What is counted from the first micro-step on. */
    private static final class Counts {
        final long[] operationCycles = new long[SETS * OPERATIONS];
        int ended;
        int wrong;
        int firstWrongPlace;
        int fights;
        int faults;
        int taken;
        int found;
        long allCycles;
        long usedCycles;

        void countEnd(int set, int operation) {
            // What was taken back counts with the instruction that ends next, so all that is left over is its.
            long spent = allCycles - usedCycles;
            operationCycles[(set & 1) * OPERATIONS + (operation & (OPERATIONS - 1))] += spent;
            usedCycles = allCycles;
            ended++;
        }

        void countWrong(int place) {
            if (wrong == 0) {
                firstWrongPlace = place;
            }
            wrong++;
        }
    }

    /** The hidden parts. */
    private static final class Hidden {
        int t;
        int u;
        int address;
        int data;
        int instruction;
        int exchange;

        int first() {
            return exchange == 1 ? high() : low();
        }

        int second() {
            return exchange == 1 ? low() : high();
        }

        int operation() {
            return (instruction / OPERATIONS) & (OPERATIONS - 1);
        }

        private int low() {
            return instruction & (REGISTERS - 1);
        }

        private int high() {
            return (instruction / REGISTERS) & (REGISTERS - 1);
        }
    }

    /** The parts, and the micro-steps that work on them. */
    private static final class Processor {
        final Store store;
        final Memory memory;
        final Counts counts;
        final Visible now = new Visible();
        final Visible kept = new Visible();
        final Hidden hidden = new Hidden();
        final LateFlags flags = new LateFlags();
        final Definition definition = new Definition();
        final int[] row = new int[MOST_RETURNS];
        int rowCount;
        int nextAddress;
        boolean hasBegun;
        char mode = RUNS;
        int awaitedPage = NONE;
        boolean interruptWaits;
        int vector = FIRST_VECTOR;
        int waitCycles;
        int lastBus;
        int lastDrivers;

        Processor(Store words, Memory cells, Counts tally) {
            store = words;
            memory = cells;
            counts = tally;
        }

        int replaceRegister(int index, int value) {
            int before = now.registers[index];
            now.registers[index] = value;
            kept.registers[index] = value;
            return before;
        }

        int startAt(int place, int set, int gate) {
            int before = now.place;
            now.place = place;
            now.set = set;
            now.gate = gate;
            kept.copyFrom(now);
            return before;
        }

        void pageCame(int page) {
            if (mode == WAITS && awaitedPage == page) {
                mode = RUNS;
                awaitedPage = NONE;
            }
        }

        void comeBack() {
            if (mode == LOST) {
                mode = RUNS;
            }
        }

        /** Does one micro-step, unless none can be done. */
        boolean advance() {
            if (mode != RUNS) {
                return false;
            }
            Word word = store.wordAt(nextAddress);
            if (word == null) {
                takeBack();
                mode = LOST;
                return false;
            }
            hasBegun = true;
            int bus = driveBus(word);
            int result = resultOf(word.combine, hidden.t, bus);
            if (word.tellsFlags) {
                flags.tell(word.combine, hidden.t, bus);
            }
            takeResult(word.listen, result);
            counts.allCycles += word.memory == NO_ACTION ? 1 : 1 + waitCycles;
            if (word.memory != NO_ACTION && memory.isAbsentAt(hidden.address)) {
                fault();
                return true;
            }
            reachMemory(word.memory);
            if (ENDING_ORDERS.indexOf(word.order) >= 0) {
                changeAtEnd(word.order, result);
                endInstruction();
            } else {
                obey(word);
            }
            return true;
        }

        private int driveBus(Word word) {
            int drive = word.drive;
            int bus = drive == 0 ? 0 : BYTES - 1;
            bus &= (drive & DRIVES_T) != 0 ? hidden.t : bus;
            bus &= (drive & DRIVES_U) != 0 ? hidden.u : bus;
            bus &= (drive & DRIVES_D) != 0 ? hidden.data : bus;
            bus &= (drive & DRIVES_P) != 0 ? now.place : bus;
            bus &= (drive & DRIVES_FIRST) != 0 ? now.registers[hidden.first()] : bus;
            bus &= (drive & DRIVES_SECOND) != 0 ? now.registers[hidden.second()] : bus;
            bus &= (drive & DRIVES_CONSTANT) != 0 ? word.constant : bus;
            if (Integer.bitCount(drive) > 1) {
                counts.fights++;
            }
            lastBus = bus;
            lastDrivers = drive;
            return bus;
        }

        private void takeResult(int listen, int result) {
            // X may listen too, but it does not tell any more which registers listen.
            int first = hidden.first();
            int second = hidden.second();
            if ((listen & LISTENS_T) != 0) {
                hidden.t = result;
            }
            if ((listen & LISTENS_U) != 0) {
                hidden.u = result;
            }
            if ((listen & LISTENS_A) != 0) {
                hidden.address = result & (CELLS - 1);
            }
            if ((listen & LISTENS_D) != 0) {
                hidden.data = result;
            }
            if ((listen & LISTENS_P) != 0) {
                now.place = result & (CELLS - 1);
            }
            if ((listen & LISTENS_FIRST) != 0) {
                now.registers[first] = result;
            }
            if ((listen & LISTENS_SECOND) != 0) {
                now.registers[second] = result;
            }
            if ((listen & LISTENS_X) != 0) {
                hidden.instruction = result;
            }
        }

        private void reachMemory(int action) {
            if (action == READS) {
                hidden.data = memory.at(hidden.address);
            } else if (action == WRITES) {
                memory.put(hidden.address, hidden.data);
            }
        }

        private void fault() {
            counts.faults++;
            mode = WAITS;
            awaitedPage = memory.pageOf(hidden.address);
            takeBack();
        }

        /** An order that does not end the instruction. */
        private void obey(Word word) {
            switch (word.order) {
                case 'n':
                    nextAddress = store.followed(word.number);
                    break;
                case 'o':
                    nextAddress = store.followed(word.number | testedBits(word.tests));
                    break;
                case 'c':
                    putReturn(nextAddress + 1);
                    nextAddress = store.followed(word.number);
                    break;
                case 'r':
                    nextAddress = store.followed(takeReturn());
                    break;
                case 'd':
                    nextAddress = store.followed(store.entryOf(now.set, hidden.operation()));
                    break;
                case 'p':
                    hidden.exchange = 1 - hidden.exchange;
                    nextAddress = store.followed(0);
                    break;
                case 'q':
                    takeBack();
                    takeInterrupt();
                    break;
                default:
                    break;
            }
        }

        private int testedBits(int tests) {
            if ((tests & (TESTS_ZERO | TESTS_CARRY)) != 0) {
                findFlags();
            }
            int bits = 0;
            if (now.zero == 1) {
                bits |= TESTS_ZERO;
            }
            if (now.carry == 1) {
                bits |= TESTS_CARRY;
            }
            if (interruptWaits && now.gate == 1) {
                bits |= TESTS_INTERRUPT;
            }
            return bits & tests;
        }

        private void findFlags() {
            if (flags.areTold) {
                now.setFlags(flags.isZero(), flags.isCarry());
                flags.areTold = false;
                counts.found++;
            }
        }

        private void putReturn(int address) {
            if (rowCount >= MOST_RETURNS) {
                for (int i = 1; i < MOST_RETURNS; i++) {
                    row[i - 1] = row[i];
                }
                rowCount = MOST_RETURNS - 1;
            }
            row[rowCount] = address;
            rowCount++;
        }

        private int takeReturn() {
            if (rowCount <= 0 || rowCount > MOST_RETURNS) {
                return NONE;
            }
            rowCount--;
            return row[rowCount];
        }

        private void changeAtEnd(char order, int result) {
            switch (order) {
                case 's':
                    now.set = 1 - now.set;
                    break;
                case 'k':
                    now.place = now.keptPlace;
                    now.gate = 1;
                    break;
                case 'g':
                    now.gate = result & 1;
                    break;
                default:
                    break;
            }
        }

        private void endInstruction() {
            findFlags();
            define();
            boolean isRight = definition.isDefined && now.isAs(definition.after)
                    && memory.isKeptBut(definition.changedCell, definition.changedByte);
            if (!isRight) {
                counts.countWrong(kept.place);
            }
            counts.countEnd(kept.set, hidden.operation());
            begin();
            takeInterrupt();
        }

        Definition define() {
            definition.decode(kept, memory.kept);
            if (definition.isDefined) {
                definition.carryOut(memory.kept);
            }
            return definition;
        }

        private void begin() {
            kept.copyFrom(now);
            memory.keep();
            hidden.exchange = 0;
            rowCount = 0;
            nextAddress = 0;
            hasBegun = false;
        }

        void takeBack() {
            now.copyFrom(kept);
            memory.takeBack();
            flags.areTold = false;
            begin();
        }

        /** Only between instructions: one has just begun, and what the interrupt changes is kept. */
        private void takeInterrupt() {
            if (!interruptWaits || now.gate != 1) {
                return;
            }
            now.keptPlace = now.place;
            now.place = vector;
            now.set = 0;
            now.gate = 0;
            kept.copyFrom(now);
            interruptWaits = false;
            counts.taken++;
        }

        int valueOf(char part) {
            switch (part) {
                case 'T':
                    return hidden.t;
                case 'U':
                    return hidden.u;
                case 'A':
                    return hidden.address;
                case 'D':
                    return hidden.data;
                case 'X':
                    return hidden.instruction;
                case 'E':
                    return hidden.exchange;
                case 'Z':
                case 'C':
                    findFlags();
                    return now.valueOf(part);
                default:
                    return now.valueOf(part);
            }
        }

        boolean hasSoundParts() {
            for (int i = 0; i < REGISTERS; i++) {
                if (isOutside(now.registers[i], BYTES)) {
                    return false;
                }
            }
            boolean arePlaces = !isOutside(now.place, CELLS) && !isOutside(hidden.address, CELLS)
                    && !isOutside(now.keptPlace, CELLS);
            boolean areBytes = !isOutside(hidden.t, BYTES) && !isOutside(hidden.u, BYTES)
                    && !isOutside(hidden.data, BYTES) && !isOutside(hidden.instruction, BYTES);
            return arePlaces && areBytes;
        }

        boolean isKeptIfNotBegun() {
            return hasBegun || now.isAs(kept);
        }
    }

    /** Goes all ways from an address on. */
    private static final class Checker {
        private static final int ALL_PARTS = LISTENS_T | LISTENS_U | LISTENS_A | LISTENS_D;
        private static final int REACHED = 16;
        // An address comes again only with a part that no earlier way left unset there: the four and REACHED.
        private static final int MOST_COMINGS = 5 * ADDRESSES;

        final Store store;
        // For each address what comes there: the parts that are unset on some way to it, and REACHED.
        final int[] coming = new int[ADDRESSES];
        final int[] queue = new int[MOST_COMINGS];
        int queued;
        int readAhead;
        int reachedCount;

        Checker(Store words) {
            store = words;
        }

        void goAllWays(int start) {
            Arrays.fill(coming, 0);
            queued = 0;
            readAhead = 0;
            reachedCount = 0;
            come(start, ALL_PARTS | REACHED);
            for (int i = 0; i < queued && i < MOST_COMINGS; i++) {
                goOn(queue[i]);
            }
        }

        private void come(int address, int parts) {
            if (isOutside(address, ADDRESSES)) {
                return;
            }
            Word word = store.wordAt(address);
            if (word == null) {
                return;
            }
            int before = coming[address];
            if ((parts & ~before) == 0 || queued >= MOST_COMINGS) {
                return;
            }
            if (before == 0) {
                reachedCount++;
            }
            coming[address] = before | parts;
            readAhead |= parts & word.partsRead();
            queue[queued] = address;
            queued++;
        }

        private void goOn(int address) {
            if (isOutside(address, ADDRESSES)) {
                return;
            }
            Word word = store.wordAt(address);
            if (word == null) {
                return;
            }
            int parts = coming[address] & ~word.partsSet();
            switch (word.order) {
                case 'n':
                    come(store.followed(word.number), parts);
                    break;
                case 'o':
                    goOnByTests(word, parts);
                    break;
                case 'c':
                    come(store.followed(word.number), parts);
                    come(store.followed(address + 1), parts);
                    break;
                default:
                    break;
            }
        }

        private void goOnByTests(Word word, int parts) {
            for (int bits = 0; bits < TESTS; bits++) {
                if ((bits & ~word.tests) == 0) {
                    come(store.followed(word.number | bits), parts);
                }
            }
        }
    }
}
