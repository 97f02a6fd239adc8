/** The boundaries that the terms name of a micro-step and of the orders. */
final class BoundariesOfMicroSteps {
    private static final int[] BYTES = {0, 1, 2, 127, 128, 129, 254, 255};

    static void run() {
        noneDrives();
        oneDrives();
        severalDrive();
        theBus();
        plus();
        minus();
        bitsOfBoth();
        bitsOfJustOne();
        busPlus1();
        busMinus1();
        busDividedBy2();
        zero();
        carry();
        otherwiseBothAre0();
        allListenersTakeTheResult();
        registersAheadOfTheMicroStep();
        memoryActionByAAndDAsTheyAreNow();
        toRead();
        toWrite();
        cycles();
        orderN();
        orderO();
        bitsOfO();
        orderCGoesToTheNumber();
        orderCPutsAReturn();
        theEarliestIsLost();
        orderR();
        orderD();
        orderP();
        catches();
        catchesAreNotFollowedTwice();
        noReturnNoEntry();
        orderE();
        orderS();
        orderK();
        orderG();
        orderQ();
    }

    // ---- the bus

    /** T, U, D, the first register and the constant of the word at 9 are 255, and P is 63. */
    private static MicrostoreWorks allOn(int drive) {
        MicrostoreWorks works = new MicrostoreWorks();
        works.setRegister(1, 255);
        Bench.put(works, 0, 255, House.TO_T + House.TO_U + House.TO_D + House.TO_P + House.TO_FIRST);
        works.write(1, drive, 0, House.TO_A, 0, 'n', 2, 0);
        works.setConstant(1, 255);
        works.step(2);
        return works;
    }

    private static void noneDrives() {
        Sentence.terms("if no part drives, it is 0;");
        MicrostoreWorks works = allOn(0);
        Check.same("bus", works.bus(), 0);
        Check.same("drivers", works.drivers(), 0);
        Check.same("heard", works.part('A'), 0);
        Check.same("fights", works.fights(), 0);
    }

    private static void oneDrives() {
        Sentence.terms("if one does, its byte;");
        for (int i = 0; i < 7; i++) {
            MicrostoreWorks works = allOn(1 << i);
            Check.same("bus of " + (1 << i), works.bus(), i == 3 ? 63 : 255);
            Check.same("drivers", works.drivers(), 1 << i);
            Check.same("fights", works.fights(), 0);
        }
    }

    private static void severalDrive() {
        Sentence.terms("if several do, those bits that all of their bytes have, and this is a fight.");
        for (int drive = 0; drive < 128; drive++) {
            MicrostoreWorks works = allOn(drive);
            int all = drive == 0 ? 0 : (drive & House.P) != 0 ? 63 : 255;
            Check.same("bus of " + drive, works.bus(), all);
            Check.same("a fight of " + drive, works.fights(), Integer.bitCount(drive) >= 2 ? 1 : 0);
        }
        MicrostoreWorks works = new MicrostoreWorks();
        Bench.put(works, 0, 0xF0, House.TO_T);
        works.write(1, House.T + House.CONSTANT, 0, 0, 0, 'n', 2, 0);
        works.setConstant(1, 0x0F);
        works.write(2, House.T + House.CONSTANT, 0, 0, 0, 'n', 3, 0);
        works.setConstant(2, 0x3C);
        works.write(3, House.T + House.U + House.CONSTANT, 0, 0, 0, 'n', 4, 0);
        works.setConstant(3, 0xFF);
        works.step(2);
        Check.same("no bit is in both", works.bus(), 0);
        works.step(1);
        Check.same("two bits are in both", works.bus(), 0x30);
        works.step(1);
        Check.same("a third one has none", works.bus(), 0);
        Check.same("three fights", works.fights(), 3);
    }

    // ---- the combinations

    private static void check(int combine, int left, int bus, int due) {
        String what = combine + " of " + left + " and " + bus;
        Check.same(what, Bench.combined(combine, left, bus, 0).part('U'), due);
    }

    private static void theBus() {
        Sentence.terms("0 the bus;");
        for (int left : BYTES) {
            for (int bus : BYTES) {
                check(0, left, bus, bus);
            }
        }
    }

    private static void plus() {
        Sentence.terms("1 T plus the bus;");
        for (int left : BYTES) {
            for (int bus : BYTES) {
                check(1, left, bus, left + bus > 255 ? left + bus - 256 : left + bus);
            }
        }
    }

    private static void minus() {
        Sentence.terms("2 T minus the bus;");
        for (int left : BYTES) {
            for (int bus : BYTES) {
                check(2, left, bus, left < bus ? left - bus + 256 : left - bus);
            }
        }
    }

    private static void bitsOfBoth() {
        Sentence.terms("3 the bits that both T and the bus have;");
        check(3, 0xCC, 0xAA, 0x88);
        check(3, 0xF0, 0x0F, 0);
        check(3, 255, 255, 255);
        check(3, 255, 0, 0);
        check(3, 0, 255, 0);
    }

    private static void bitsOfJustOne() {
        Sentence.terms("4 the bits that just one of both has;");
        check(4, 0xCC, 0xAA, 0x66);
        check(4, 0xF0, 0x0F, 255);
        check(4, 255, 255, 0);
        check(4, 255, 0, 255);
        check(4, 0, 255, 255);
    }

    private static void busPlus1() {
        Sentence.terms("5 the bus plus 1;");
        check(5, 77, 0, 1);
        check(5, 77, 254, 255);
        check(5, 77, 255, 0);
    }

    private static void busMinus1() {
        Sentence.terms("6 the bus minus 1;");
        check(6, 77, 255, 254);
        check(6, 77, 1, 0);
        check(6, 77, 0, 255);
    }

    private static void busDividedBy2() {
        Sentence.terms("7 the bus divided by 2, rounded down.");
        check(7, 77, 0, 0);
        check(7, 77, 1, 0);
        check(7, 77, 2, 1);
        check(7, 77, 3, 1);
        check(7, 77, 254, 127);
        check(7, 77, 255, 127);
    }

    // ---- the flags

    private static void checkFlag(char flag, int combine, int left, int bus, int due) {
        String what = flag + " by " + combine + " of " + left + " and " + bus;
        Check.same(what, Bench.combined(combine, left, bus, 1).part(flag), due);
    }

    private static void zero() {
        Sentence.terms("Third, if the word tells the flags, Z is 1 if the result is 0;");
        for (int combine = 0; combine < 8; combine++) {
            for (int left : BYTES) {
                for (int bus : BYTES) {
                    int result = Bench.combined(combine, left, bus, 0).part('U');
                    checkFlag('Z', combine, left, bus, result == 0 ? 1 : 0);
                }
            }
        }
        checkFlag('Z', 1, 255, 1, 1);
        checkFlag('Z', 1, 255, 2, 0);
        Check.same("it does not tell the flags", Bench.combined(0, 0, 0, 0).part('Z'), 0);
    }

    private static void carry() {
        Sentence.terms("C is 1 if T plus the bus is greater than 255 for 1, if T is less than the bus for 2, if the bus"
                + " is 255 for 5, if the bus is 0 for 6, and if the bus is odd for 7;");
        for (int left : BYTES) {
            for (int bus : BYTES) {
                checkFlag('C', 1, left, bus, left + bus > 255 ? 1 : 0);
                checkFlag('C', 2, left, bus, left < bus ? 1 : 0);
                checkFlag('C', 5, left, bus, bus == 255 ? 1 : 0);
                checkFlag('C', 6, left, bus, bus == 0 ? 1 : 0);
                checkFlag('C', 7, left, bus, bus % 2);
            }
        }
        checkFlag('C', 1, 100, 155, 0);
        checkFlag('C', 1, 100, 156, 1);
        checkFlag('C', 2, 100, 100, 0);
        checkFlag('C', 2, 100, 101, 1);
        Check.same("it does not tell the flags", Bench.combined(1, 255, 255, 0).part('C'), 0);
    }

    private static void otherwiseBothAre0() {
        Sentence.terms("otherwise both are 0.");
        for (int combine = 0; combine < 8; combine++) {
            MicrostoreWorks works = new MicrostoreWorks();
            Bench.putFlags(works, 0, 1, 1);
            Bench.put(works, 2, 7, House.TO_T);
            works.write(3, House.CONSTANT, combine, House.TO_U, 0, 'n', 4, 1);
            works.setConstant(3, 6);
            works.step(2);
            Check.same("both were 1", Bench.flags(works), 3);
            works.step(2);
            Check.same("both are 0 by " + combine, Bench.flags(works), 0);
            Check.same("found twice", works.found(), 2);
        }
        for (int combine : new int[] {0, 3, 4}) {
            for (int left : BYTES) {
                for (int bus : BYTES) {
                    checkFlag('C', combine, left, bus, 0);
                }
            }
        }
    }

    // ---- what listens, and the memory

    private static void allListenersTakeTheResult() {
        Sentence.terms("Fourth, all parts that listen take the result.");
        for (int registers : new int[] {House.TO_FIRST, House.TO_SECOND}) {
            MicrostoreWorks works = new MicrostoreWorks();
            Bench.put(works, 0, 0x24, House.TO_X);
            works.write(1, House.CONSTANT, 5, 255 - 96 + registers, 0, 'n', 2, 0);
            works.setConstant(1, 0x30);
            works.step(2);
            for (char part : "TUADPX".toCharArray()) {
                Check.same("" + part, works.part(part), 0x31);
            }
            Check.same("the first one", works.register(0), registers == House.TO_FIRST ? 0x31 : 0);
            Check.same("the second one", works.register(1), registers == House.TO_SECOND ? 0x31 : 0);
            works.write(2, House.CONSTANT, 5, 0, 0, 'n', 3, 0);
            works.setConstant(2, 0x77);
            works.step(1);
            for (char part : "TUADPX".toCharArray()) {
                Check.same("none listens, " + part, works.part(part), 0x31);
            }
            Check.same("no register", works.register(0) + works.register(1) + works.register(2), 0x31);
        }
    }

    private static void registersAheadOfTheMicroStep() {
        Sentence.terms("Which registers are the first and the second one is told by X and E as they are ahead of the"
                + " micro-step.");
        for (int registers : new int[] {House.TO_FIRST, House.TO_SECOND}) {
            MicrostoreWorks works = new MicrostoreWorks();
            works.setRegister(1, 0x0B);
            Bench.put(works, 0, 0x04, House.TO_X);
            works.write(1, House.SECOND, 0, House.TO_X + registers, 0, 'p', 0, 0);
            works.step(2);
            Check.same("by X ahead of it", works.register(registers == House.TO_FIRST ? 0 : 1), 0x0B);
            Check.same("not by X as it is now", works.register(2) + works.register(3), 0);
            works.write(0, House.CONSTANT, 0, registers, 0, 'n', 1, 0);
            works.setConstant(0, 0x55);
            works.step(1);
            Check.same("X and E are now", works.register(registers == House.TO_FIRST ? 2 : 3), 0x55);
        }
        MicrostoreWorks exchanged = new MicrostoreWorks();
        Bench.put(exchanged, 0, 0x04, House.TO_X);
        exchanged.write(1, House.CONSTANT, 0, House.TO_FIRST, 0, 'p', 0, 0);
        exchanged.setConstant(1, 9);
        exchanged.step(2);
        Check.same("by E ahead of it", exchanged.register(0), 9);
        exchanged.step(2);
        Check.same("by E that was 1", exchanged.register(1), 9);
    }

    private static void memoryActionByAAndDAsTheyAreNow() {
        Sentence.terms("Fifth, the memory action, with A and D as they are now:");
        MicrostoreWorks works = new MicrostoreWorks();
        works.setCell(63, 31);
        works.write(0, House.CONSTANT, 0, House.TO_A, House.READ, 'n', 1, 0);
        works.setConstant(0, 255);
        works.write(1, House.CONSTANT, 0, House.TO_A + House.TO_D, House.WRITE, 'n', 2, 0);
        works.setConstant(1, 64);
        works.step(1);
        Check.same("A that has just heard 255", works.part('D'), 31);
        works.step(1);
        Check.same("A and D that have just heard 64", works.cell(0), 64);
        Check.same("not the A ahead of it", works.cell(63), 31);
    }

    private static void toRead() {
        Sentence.terms("to read, D takes the cell A;");
        for (int cell : new int[] {0, 1, 62, 63}) {
            MicrostoreWorks works = new MicrostoreWorks();
            works.setCell(cell, 255);
            Bench.put(works, 0, cell, House.TO_A);
            works.write(1, 0, 0, 0, House.READ, 'n', 2, 0);
            works.step(2);
            Check.same("D of " + cell, works.part('D'), 255);
            Check.same("the cell stays", works.cell(cell), 255);
        }
    }

    private static void toWrite() {
        Sentence.terms("to write, the cell A takes D.");
        for (int cell : new int[] {0, 1, 62, 63}) {
            MicrostoreWorks works = new MicrostoreWorks();
            Bench.put(works, 0, cell, House.TO_A);
            Bench.put(works, 1, 255, House.TO_D);
            works.write(2, 0, 0, 0, House.WRITE, 'n', 3, 0);
            works.step(3);
            for (int i = 0; i < 64; i++) {
                Check.same("the cell " + i, works.cell(i), i == cell ? 255 : 0);
            }
            Check.same("D stays", works.part('D'), 255);
        }
    }

    private static void cycles() {
        Sentence.terms("A micro-step takes 1 cycle, and as many more as the wait tells if it reads or writes.");
        for (int wait = 0; wait < 10; wait++) {
            for (int memory = 0; memory < 3; memory++) {
                MicrostoreWorks works = new MicrostoreWorks();
                works.setWait(wait);
                works.write(0, 0, 0, 0, memory, 'n', 0, 0);
                works.step(1);
                Check.same("wait " + wait + ", action " + memory, works.cycles(), memory == 0 ? 1 : 1 + wait);
            }
        }
    }

    // ---- the orders

    private static MicrostoreWorks ordered(char order, int number) {
        MicrostoreWorks works = new MicrostoreWorks();
        works.write(0, 0, 0, 0, 0, order, number, 0);
        works.step(1);
        return works;
    }

    private static void orderN() {
        Sentence.terms("the number is the next address.");
        for (int number : new int[] {0, 1, 63, 64, 79}) {
            Check.same("" + number, ordered('n', number).next(), number);
        }
    }

    private static void orderO() {
        Sentence.terms("the number, with bits set:");
        for (int number = 0; number < 80; number++) {
            MicrostoreWorks works = new MicrostoreWorks();
            works.start(0, 0, true);
            works.interrupt();
            Bench.putFlags(works, 0, 1, 1);
            works.write(2, 0, 0, 0, 0, 'o', number, 14);
            works.step(3);
            Check.same("all bits are set in " + number, works.next(), number / 8 * 8 + 7);
            works = new MicrostoreWorks();
            works.write(0, 0, 0, 0, 0, 'o', number, 14);
            works.step(1);
            Check.same("no bit is cleared in " + number, works.next(), number);
        }
    }

    private static void bitsOfO() {
        Sentence.terms("the bit 0 if Z is tested and 1, the bit 1 if C is tested and 1, the bit 2 if an interrupt is"
                + " tested, one waits, and I is 1.");
        for (int tests = 0; tests < 8; tests++) {
            for (int state = 0; state < 16; state++) {
                MicrostoreWorks works = new MicrostoreWorks();
                works.start(0, 0, state / 8 == 1);
                if (state / 4 % 2 == 1) {
                    works.interrupt();
                }
                Bench.putFlags(works, 0, state % 2, state / 2 % 2);
                works.write(2, 0, 0, 0, 0, 'o', 16, 2 * tests);
                works.step(3);
                int bits = state % 4 + (state >= 12 ? 4 : 0);
                Check.same("tests " + tests + " in " + state, works.next(), 16 + (bits & tests));
            }
        }
    }

    private static void orderCGoesToTheNumber() {
        Sentence.terms("the number; the address plus 1");
        for (int number : new int[] {0, 63, 64, 79}) {
            MicrostoreWorks works = ordered('c', number);
            Check.same("" + number, works.next(), number);
            Check.same("a return", works.returns(), 1);
        }
    }

    /** A word at the address calls one that returns; then the next address is the one that was put on the row. */
    private static int returnOf(int address) {
        MicrostoreWorks works = new MicrostoreWorks();
        works.write(0, 0, 0, 0, 0, 'n', address, 0);
        works.write(40, 0, 0, 0, 0, 'r', 0, 0);
        works.write(41, 0, 0, 0, 0, 'c', 40, 0);
        if (address < 64) {
            works.write(address, 0, 0, 0, 0, 'c', 40, 0);
        } else {
            works.patch(address, 41, 40);
        }
        works.step(3);
        return works.next();
    }

    private static void orderCPutsAReturn() {
        Sentence.terms("the address plus 1, perhaps 80, is put on the row of returns;");
        for (int address : new int[] {1, 2, 62, 63, 64, 78, 79}) {
            Check.same("" + address, returnOf(address), address + 1);
        }
        MicrostoreWorks works = new MicrostoreWorks();
        works.write(0, 0, 0, 0, 0, 'c', 0, 0);
        works.step(1);
        works.write(0, 0, 0, 0, 0, 'r', 0, 0);
        works.step(1);
        Check.same("0", works.next(), 1);
    }

    /** So many calls one behind another, each from an address of its own; then words that return. */
    private static MicrostoreWorks called(int calls) {
        MicrostoreWorks works = new MicrostoreWorks();
        for (int i = 0; i < calls; i++) {
            works.write(2 * i, 0, 0, 0, 0, 'c', 2 * i + 2, 0);
            works.write(2 * i + 1, 0, 0, 0, 0, 'r', 0, 0);
        }
        works.write(2 * calls, 0, 0, 0, 0, 'r', 0, 0);
        works.step(calls);
        return works;
    }

    private static void theEarliestIsLost() {
        Sentence.terms("if there are 4 there, the earliest one is lost.");
        for (int calls = 1; calls <= 9; calls++) {
            MicrostoreWorks works = called(calls);
            int held = Math.min(calls, 4);
            Check.same("returns behind " + calls, works.returns(), held);
            for (int i = 0; i < held; i++) {
                works.step(1);
                Check.same("return " + i + " of " + calls, works.next(), 2 * (calls - i) - 1);
            }
            works.step(1);
            Check.same("no more of " + calls, works.next(), -1);
        }
    }

    private static void orderR() {
        Sentence.terms("the latest one on the row of returns, which is taken off.");
        MicrostoreWorks works = called(2);
        Check.same("two", works.returns(), 2);
        works.step(1);
        Check.same("the latest one", works.next(), 3);
        Check.same("one", works.returns(), 1);
        works.step(1);
        Check.same("the one ahead of it", works.next(), 1);
        Check.same("none", works.returns(), 0);
    }

    private static void orderD() {
        Sentence.terms("the entry of the table for the set S and the operation.");
        for (int i = 0; i < 32; i++) {
            MicrostoreWorks works = new MicrostoreWorks();
            for (int j = 0; j < 32; j++) {
                works.setEntry(j / 16, j % 16, 40 + j);
            }
            works.start(0, i / 16, false);
            Bench.put(works, 0, i % 16 * 16 + 15, House.TO_X);
            works.write(1, 0, 0, 0, 0, 'd', 0, 0);
            works.step(2);
            Check.same("set " + i / 16 + ", operation " + i % 16, works.next(), 40 + i);
        }
        MicrostoreWorks works = new MicrostoreWorks();
        works.setEntry(1, 15, 79);
        works.setEntry(1, 0, 0);
        works.start(0, 1, false);
        works.write(0, House.CONSTANT, 0, House.TO_X, 0, 'd', 0, 0);
        works.setConstant(0, 255);
        works.step(1);
        Check.same("by X that the word has just set", works.next(), 79);
    }

    private static void orderP() {
        Sentence.terms("E becomes the other one, and the next address is 0.");
        MicrostoreWorks works = ordered('p', 79);
        Check.same("E", works.part('E'), 1);
        Check.same("next", works.next(), 0);
        works.step(1);
        Check.same("E again", works.part('E'), 0);
        Check.same("next again", works.next(), 0);
        Check.same("it does not end", works.ended(), 0);
    }

    private static void catches() {
        Sentence.terms("If there is a catch for the next address that these orders tell, the one to which it leads is"
                + " the next address instead;");
        for (char order : "nocrdp".toCharArray()) {
            MicrostoreWorks works = new MicrostoreWorks();
            works.write(0, 0, 0, 0, 0, 'c', 5, 0);
            works.write(5, 0, 0, 0, 0, order, 7, 0);
            works.setEntry(0, 0, 9);
            int told = order == 'r' ? 1 : order == 'd' ? 9 : order == 'p' ? 0 : 7;
            works.setCatch(told, 79);
            works.step(2);
            Check.same("'" + order + "'", works.next(), 79);
        }
        MicrostoreWorks works = new MicrostoreWorks();
        works.write(0, 0, 6, 0, 0, 'o', 8, 1 + House.TEST_C);
        works.setCatch(8, 64);
        works.step(1);
        Check.same("'o' with a bit set is not caught", works.next(), 10);
        works.reset();
        works.setCatch(10, 65);
        works.step(1);
        Check.same("'o' is caught with its bits", works.next(), 65);
        checkBeginningsAreNotCaught();
    }

    private static void checkBeginningsAreNotCaught() {
        for (char order : "eskgq".toCharArray()) {
            MicrostoreWorks works = new MicrostoreWorks();
            works.setCatch(0, 64);
            Check.same("at first", works.next(), 0);
            works.write(0, 0, 0, 0, 0, order, 0, 0);
            works.step(1);
            Check.same("behind '" + order + "'", works.next(), 0);
            works.reset();
            Check.same("taken back", works.next(), 0);
        }
    }

    private static void catchesAreNotFollowedTwice() {
        Sentence.terms("catches are not followed twice.");
        MicrostoreWorks works = new MicrostoreWorks();
        works.write(0, 0, 0, 0, 0, 'n', 5, 0);
        works.setCatch(5, 70);
        works.setCatch(70, 71);
        works.setCatch(71, 70);
        works.setCatch(72, 72);
        works.step(1);
        Check.same("a row of catches", works.next(), 70);
        works.reset();
        works.write(0, 0, 0, 0, 0, 'n', 70, 0);
        works.step(1);
        Check.same("a ring of catches", works.next(), 71);
        works.reset();
        works.write(0, 0, 0, 0, 0, 'n', 72, 0);
        works.step(1);
        Check.same("a catch for itself", works.next(), 72);
    }

    private static void noReturnNoEntry() {
        Sentence.terms("If there is no return, or the entry is none, the next address is -1.");
        Check.same("no return", ordered('r', 5).next(), -1);
        Check.same("no entry", ordered('d', 5).next(), -1);
        MicrostoreWorks works = called(1);
        works.step(2);
        Check.same("the last one is taken off", works.next(), -1);
        works = new MicrostoreWorks();
        works.setEntry(0, 0, 0);
        works.setEntry(0, 0, -1);
        works.write(0, 0, 0, 0, 0, 'd', 5, 0);
        works.step(1);
        Check.same("an entry that is none again", works.next(), -1);
    }

    // ---- the orders that end the instruction or give way

    private static MicrostoreWorks endedBy(char order, int constant, int combine, boolean isOpen) {
        MicrostoreWorks works = new MicrostoreWorks();
        Bench.keepPlace(works, 63);
        works.start(20, 1, isOpen);
        works.write(0, 0, 0, 0, 0, 'n', 1, 0);
        works.write(1, House.CONSTANT, combine, 0, 0, order, 7, 0);
        works.setConstant(1, constant);
        works.step(2);
        return works;
    }

    private static void checkEnd(MicrostoreWorks works, int place, int set, int gate) {
        Check.same("it ends", works.ended(), 2);
        Check.same("next", works.next(), 0);
        Check.same("P", works.part('P'), place);
        Check.same("S", works.part('S'), set);
        Check.same("I", works.part('I'), gate);
        Check.same("K", works.part('K'), 63);
    }

    private static void orderE() {
        Sentence.terms("'e': the instruction ends.");
        checkEnd(endedBy('e', 1, 0, false), 20, 1, 0);
        checkEnd(endedBy('e', 0, 0, true), 20, 1, 1);
    }

    private static void orderS() {
        Sentence.terms("S becomes the other one, and the instruction ends.");
        MicrostoreWorks works = endedBy('s', 1, 0, false);
        checkEnd(works, 20, 0, 0);
        works.step(2);
        Check.same("and the other one again", works.part('S'), 1);
    }

    private static void orderK() {
        Sentence.terms("P becomes K, I becomes 1, and the instruction ends.");
        checkEnd(endedBy('k', 0, 0, false), 63, 1, 1);
        checkEnd(endedBy('k', 0, 0, true), 63, 1, 1);
        MicrostoreWorks works = new MicrostoreWorks();
        works.write(0, House.CONSTANT, 0, House.TO_P, 0, 'k', 0, 0);
        works.setConstant(0, 50);
        works.step(1);
        Check.same("also if P listens", works.part('P'), 0);
    }

    private static void orderG() {
        Sentence.terms("I becomes 1 if the result is odd, 0 otherwise, and the instruction ends.");
        for (int constant : BYTES) {
            checkEnd(endedBy('g', constant, 0, false), 20, 1, constant % 2);
            checkEnd(endedBy('g', constant, 0, true), 20, 1, constant % 2);
            checkEnd(endedBy('g', constant, 5, true), 20, 1, (constant + 1) % 2);
        }
    }

    private static void orderQ() {
        Sentence.terms("the instruction gives way.");
        MicrostoreWorks works = endedBy('q', 1, 0, true);
        Check.same("it does not end", works.ended(), 1);
        Check.same("next", works.next(), 0);
        Check.same("P", works.part('P'), 20);
    }
}
