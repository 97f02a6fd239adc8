/** Promises 20 to 27: the parts, and what a micro-step does to them. */
public final class PartsTest {
    private static final Class<IndexOutOfBoundsException> INDEX = IndexOutOfBoundsException.class;
    private static final Class<IllegalArgumentException> ARGUMENT = IllegalArgumentException.class;

    public static void main(String[] args) {
        promise20State();
        promise21And22CellAndRegister();
        promise21And22Refuse();
        promise23Part();
        promise23PartRefuses();
        promise23Listeners();
        promise23Exchange();
        promise23Combinations();
        promise23FlagsAreFoundLate();
        promise23FlagsOfTheWordThatTests();
        promise23EndingOrders();
        promise23Memory();
        promise24And25NextAndReturns();
        promise26And27BusAndDrivers();
        promise26Fights();
        Check.finish();
    }

    private static void promise20State() {
        MicrostoreWorks works = House.make();
        Check.same("at first", works.state(), 'r');
        works.setPage(0, false);
        Check.same("absence alone", works.state(), 'r');
        works.step(1);
        Check.same("waits", works.state(), 'w');
        works.setPage(0, true);
        Check.same("runs", works.state(), 'r');
        works.setEntry(0, 0, -1);
        works.step(3);
        Check.same("not tried yet", works.state(), 'r');
        works.step(1);
        Check.same("lost", works.state(), 'l');
        works.setPage(0, false);
        works.setPage(0, true);
        Check.same("a page does not help", works.state(), 'l');
        works.reset();
        Check.same("reset", works.state(), 'r');
    }

    private static void promise21And22CellAndRegister() {
        MicrostoreWorks works = House.make();
        works.setCell(63, 200);
        works.setRegister(3, 100);
        Check.same("cell", works.cell(63), 200);
        Check.same("register", works.register(3), 100);
        works.setPage(3, false);
        Check.same("cell of an absent page", works.cell(63), 200);
    }

    private static void promise21And22Refuse() {
        Refusal.check("cell -1", Scene::idle, INDEX, works -> works.cell(-1));
        Refusal.check("cell 64", Scene::idle, INDEX, works -> works.cell(64));
        Refusal.check("register -1", Scene::idle, INDEX, works -> works.register(-1));
        Refusal.check("register 4", Scene::idle, INDEX, works -> works.register(4));
    }

    private static void promise23Part() {
        MicrostoreWorks works = House.make();
        works.start(33, 1, true);
        Check.same("P", works.part('P'), 33);
        Check.same("S", works.part('S'), 1);
        Check.same("I", works.part('I'), 1);
    }

    private static void promise23PartRefuses() {
        for (char part : "BFMNRW0123pz \0".toCharArray()) {
            Refusal.check("no part " + part, Scene::begun, ARGUMENT, works -> works.part(part));
        }
        Refusal.check("no part 336", Scene::idle, ARGUMENT, works -> works.part((char) (256 + 'P')));
    }

    private static void promise23Listeners() {
        MicrostoreWorks works = new MicrostoreWorks();
        works.write(0, 64, 0, 255 - 64, 0, 'n', 0, 0);
        works.setConstant(0, 0xE6);
        works.step(1);
        Check.same("T", works.part('T'), 0xE6);
        Check.same("U", works.part('U'), 0xE6);
        Check.same("A is a place", works.part('A'), 0x26);
        Check.same("D", works.part('D'), 0xE6);
        Check.same("P is a place", works.part('P'), 0x26);
        Check.same("X", works.part('X'), 0xE6);
        Check.same("the first register by X ahead of it", works.register(0), 0xE6);
        Check.same("not by X as it is now", works.register(2), 0);
        works.write(0, 64, 0, 64, 0, 'n', 0, 0);
        works.setConstant(0, 9);
        works.step(1);
        Check.same("the second register", works.register(1), 9);
        works.write(0, 64, 0, 32, 0, 'n', 0, 0);
        works.setConstant(0, 8);
        works.step(1);
        Check.same("the first register", works.register(2), 8);
    }

    private static void promise23Exchange() {
        MicrostoreWorks works = new MicrostoreWorks();
        for (int i = 0; i < 4; i++) {
            works.setRegister(i, 10 + i);
        }
        works.write(0, 64, 0, 128, 0, 'p', 0, 0);
        works.setConstant(0, 0xB7);
        works.step(1);
        Check.same("E", works.part('E'), 1);
        Check.same("at 0", works.next(), 0);
        works.write(0, 16, 0, 1, 0, 'n', 1, 0);
        works.step(1);
        Check.same("the first one is the second one of X", works.part('T'), 11);
        works.write(1, 32, 0, 65, 0, 'p', 0, 0);
        works.step(1);
        Check.same("the second one is the first one of X", works.part('T'), 13);
        Check.same("E again", works.part('E'), 0);
        works.step(1);
        Check.same("not exchanged", works.part('T'), 13);
        works.reset();
        works.write(0, 0, 0, 0, 0, 'p', 0, 0);
        works.step(1);
        works.write(0, 0, 0, 0, 0, 'e', 0, 0);
        works.step(1);
        Check.same("E is 0 when one begins", works.part('E'), 0);
    }

    /** The result and the flags of a word that combines, with T as left and the constant as the bus. */
    private static void checkCombination(int combine, int left, int bus, int result, int zero, int carry) {
        MicrostoreWorks works = new MicrostoreWorks();
        works.write(0, 64, 0, 1, 0, 'n', 1, 0);
        works.setConstant(0, left);
        works.write(1, 64, combine, 2, 0, 'n', 2, 1);
        works.setConstant(1, bus);
        works.step(2);
        String what = combine + " of " + left + " and " + bus;
        Check.same(what, works.part('U'), result);
        Check.same(what + " Z", works.part('Z'), zero);
        Check.same(what + " C", works.part('C'), carry);
    }

    private static void promise23Combinations() {
        checkCombination(0, 7, 200, 200, 0, 0);
        checkCombination(0, 255, 0, 0, 1, 0);
        checkCombination(1, 100, 155, 255, 0, 0);
        checkCombination(1, 100, 156, 0, 1, 1);
        checkCombination(1, 255, 255, 254, 0, 1);
        checkCombination(1, 0, 0, 0, 1, 0);
        checkCombination(2, 100, 99, 1, 0, 0);
        checkCombination(2, 100, 100, 0, 1, 0);
        checkCombination(2, 100, 101, 255, 0, 1);
        checkCombination(3, 0xCC, 0xAA, 0x88, 0, 0);
        checkCombination(3, 0xF0, 0x0F, 0, 1, 0);
        checkCombination(4, 0xCC, 0xAA, 0x66, 0, 0);
        checkCombination(4, 0xCC, 0xCC, 0, 1, 0);
        checkCombination(5, 0, 255, 0, 1, 1);
        checkCombination(5, 255, 254, 255, 0, 0);
        checkCombination(6, 9, 0, 255, 0, 1);
        checkCombination(6, 0, 1, 0, 1, 0);
        checkCombination(6, 0, 255, 254, 0, 0);
        checkCombination(7, 0, 255, 127, 0, 1);
        checkCombination(7, 0, 254, 127, 0, 0);
        checkCombination(7, 0, 1, 0, 1, 1);
        checkCombination(7, 0, 0, 0, 1, 0);
    }

    private static void promise23FlagsAreFoundLate() {
        MicrostoreWorks works = new MicrostoreWorks();
        works.write(0, 64, 1, 1, 0, 'n', 1, 1);
        works.write(1, 64, 0, 1, 0, 'n', 2, 0);
        works.write(2, 64, 2, 1, 0, 'n', 3, 1);
        works.write(3, 64, 0, 1, 0, 'n', 0, 0);
        works.setConstant(1, 7);
        works.setConstant(2, 9);
        works.step(2);
        Check.same("none was found", works.found(), 0);
        Check.same("by T and the bus as they were told", works.part('Z'), 1);
        Check.same("found", works.found(), 1);
        Check.same("both at once", works.part('C'), 0);
        Check.same("found once", works.found(), 1);
        works.step(1);
        works.part('T');
        works.part('P');
        Check.same("other parts do not ask", works.found(), 1);
        Check.same("C", works.part('C'), 1);
        Check.same("Z", works.part('Z'), 0);
        Check.same("found twice", works.found(), 2);
        works.step(2);
        works.step(2);
        Check.same("the last word that told counts", works.part('C'), 1);
        Check.same("found once for both", works.found(), 3);
        works.step(2);
        works.reset();
        Check.same("taken back: Z", works.part('Z'), 0);
        Check.same("taken back: C", works.part('C'), 0);
        Check.same("nothing to find", works.found(), 3);
    }

    private static void promise23FlagsOfTheWordThatTests() {
        MicrostoreWorks works = new MicrostoreWorks();
        works.write(0, 0, 6, 1, 0, 'o', 8, 1 + House.TEST_Z + House.TEST_C);
        works.write(10, 0, 0, 0, 0, 'o', 4, 1 + House.TEST_INTERRUPT);
        works.write(4, 0, 0, 0, 0, 'o', 3, House.TEST_Z);
        works.step(1);
        Check.same("its own C", works.next(), 10);
        Check.same("found", works.found(), 1);
        works.step(1);
        Check.same("the interrupt alone", works.next(), 4);
        Check.same("is no test of flags", works.found(), 1);
        works.step(1);
        Check.same("Z by a bit that the number has", works.next(), 3);
        Check.same("found twice", works.found(), 2);
        works.write(3, 0, 0, 0, 0, 'o', 72, House.TEST_Z + House.TEST_C);
        works.step(1);
        Check.same("both bits, C is 0", works.next(), 73);
        Check.same("none told since", works.found(), 2);
    }

    private static void promise23EndingOrders() {
        MicrostoreWorks works = new MicrostoreWorks();
        works.write(0, 64, 0, 0, 0, 'g', 0, 0);
        works.setConstant(0, 1);
        works.step(1);
        Check.same("'g' with an odd result", works.part('I'), 1);
        works.setConstant(0, 254);
        works.step(1);
        Check.same("'g' with an even result", works.part('I'), 0);
        works.write(0, 64, 5, 0, 0, 'g', 0, 0);
        works.setConstant(0, 254);
        works.step(1);
        Check.same("by the result, not by the bus", works.part('I'), 1);
        works.write(0, 0, 0, 0, 0, 's', 0, 0);
        works.step(1);
        Check.same("'s'", works.part('S'), 1);
        works.step(1);
        Check.same("'s' again", works.part('S'), 0);
        works.start(20, 0, true);
        works.interrupt();
        works.write(0, 0, 0, 0, 0, 'e', 0, 0);
        works.step(1);
        works.write(0, 64, 0, 16, 0, 'k', 0, 0);
        works.setConstant(0, 50);
        works.step(1);
        Check.same("'k' outdoes what P heard", works.part('P'), 20);
        Check.same("'k' opens", works.part('I'), 1);
        Check.same("K stays", works.part('K'), 20);
        Check.same("all ended", works.ended(), 7);
        Check.same("each is sound", works.isSound(), true);
    }

    private static void promise23Memory() {
        MicrostoreWorks works = new MicrostoreWorks();
        works.setCell(44, 31);
        works.write(0, 64, 0, 4, 1, 'n', 1, 0);
        works.setConstant(0, 0x80 + 44);
        works.step(1);
        Check.same("A as it is now", works.part('A'), 44);
        Check.same("read", works.part('D'), 31);
        works.write(1, 64, 0, 12, 2, 'n', 2, 0);
        works.setConstant(1, 0x4F);
        works.step(1);
        Check.same("A and D as they are now", works.cell(15), 0x4F);
        Check.same("the cell ahead of it", works.cell(44), 31);
        works.write(2, 64, 0, 1, 2, 'n', 3, 0);
        works.step(1);
        Check.same("the bus is not what is written", works.cell(15), 0x4F);
        Check.same("T alone has heard", works.part('A'), 15);
        works.write(3, 64, 0, 4, 1, 'n', 4, 0);
        works.setConstant(3, 15);
        works.step(1);
        Check.same("read what was written", works.part('D'), 0x4F);
        works.reset();
        Check.same("taken back", works.cell(15), 0);
    }

    private static void promise24And25NextAndReturns() {
        MicrostoreWorks works = new MicrostoreWorks();
        for (int address = 0; address < 6; address++) {
            works.write(address, 0, 0, 0, 0, 'c', address + 1, 0);
        }
        works.write(6, 0, 0, 0, 0, 'c', 79, 0);
        works.write(10, 0, 0, 0, 0, 'r', 0, 0);
        works.patch(79, 6, 10);
        works.step(1);
        Check.same("called", works.next(), 1);
        Check.same("one return", works.returns(), 1);
        works.step(3);
        Check.same("four", works.returns(), 4);
        works.step(4);
        Check.same("not more than four", works.returns(), 4);
        Check.same("next", works.next(), 10);
        works.step(1);
        Check.same("perhaps 80", works.next(), 80);
        Check.same("three", works.returns(), 3);
        works.step(1);
        Check.same("no word at 80", works.state(), 'l');
        Check.same("an empty row", works.returns(), 0);
        checkTheLatestFirst();
    }

    private static void checkTheLatestFirst() {
        MicrostoreWorks works = new MicrostoreWorks();
        int[] calls = {0, 10, 20, 30, 40};
        for (int address : calls) {
            works.write(address, 0, 0, 0, 0, 'c', address + 10, 0);
            works.write(address + 1, 0, 0, 0, 0, 'r', 0, 0);
        }
        works.write(50, 0, 0, 0, 0, 'r', 0, 0);
        works.step(5);
        Check.same("four", works.returns(), 4);
        int[] due = {41, 31, 21, 11, -1};
        for (int address : due) {
            works.step(1);
            Check.same("the latest one", works.next(), address);
        }
        Check.same("none", works.returns(), 0);
        works.step(1);
        Check.same("no way", works.state(), 'l');
        works.reset();
        works.step(2);
        works.write(20, 0, 0, 0, 0, 'e', 0, 0);
        works.step(1);
        Check.same("an end empties the row", works.returns(), 0);
        works.step(1);
        works.write(10, 0, 0, 0, 0, 'q', 0, 0);
        works.step(1);
        Check.same("giving way empties the row", works.returns(), 0);
        works.write(0, 0, 0, 0, 0, 'c', 10, 0);
        works.write(10, 0, 0, 0, 0, 'p', 0, 0);
        works.step(2);
        Check.same("a prefix does not", works.returns(), 1);
    }

    /** Each part lacks one bit that all others have, so that each one that drives is seen on the bus. */
    private static void promise26Fights() {
        int[] bytes = {0xFE, 0xFD, 0xFB, 0x37, 0xEF, 0xDF, 0xBF};
        int[] listeners = {1, 2, 8, 16, 32, 64};
        for (int drive = 0; drive < 128; drive++) {
            MicrostoreWorks works = new MicrostoreWorks();
            works.write(7, 64, 0, 128, 0, 'n', 8, 0);
            works.setConstant(7, 0x0E);
            works.write(0, 0, 0, 0, 0, 'n', 7, 0);
            for (int i = 0; i < 6; i++) {
                works.write(8 + i, 64, 0, listeners[i], 0, 'n', 9 + i, 0);
                works.setConstant(8 + i, bytes[i]);
            }
            works.write(14, drive, 0, 0, 0, 'e', 0, 0);
            works.setConstant(14, bytes[6]);
            int due = drive == 0 ? 0 : 255;
            for (int i = 0; i < 7; i++) {
                due &= (drive >> i & 1) == 1 ? bytes[i] : 255;
            }
            Check.same("to the end", works.step(9), 9);
            Check.same("bus of " + drive, works.bus(), due);
            Check.same("drivers", works.drivers(), drive);
            Check.same("fights", works.fights(), Integer.bitCount(drive) > 1 ? 1 : 0);
        }
    }

    private static void promise26And27BusAndDrivers() {
        MicrostoreWorks works = new MicrostoreWorks();
        works.write(0, 64, 5, 255 - 64, 0, 'n', 1, 0);
        works.setConstant(0, 0x30);
        works.step(1);
        Check.same("the bus, not the result", works.bus(), 0x30);
        Check.same("the constant", works.drivers(), 64);
        works.write(1, 0, 5, 0, 0, 'n', 2, 0);
        works.step(1);
        Check.same("no driver", works.bus(), 0);
        Check.same("none", works.drivers(), 0);
        int[] drivers = {1, 2, 4, 8, 32};
        for (int drive : drivers) {
            works.write(2, drive, 0, 0, 0, 'n', 2, 0);
            works.step(1);
            Check.same("bus of " + drive, works.bus(), 0x31);
            Check.same("drivers of " + drive, works.drivers(), drive);
        }
        works.write(2, 16, 0, 0, 0, 'n', 2, 0);
        works.step(1);
        Check.same("the register 1 is the first one", works.bus(), 0);
        Check.same("no fights", works.fights(), 0);
        works.write(2, 64 + 1, 0, 0, 0, 'n', 2, 0);
        works.setConstant(2, 0x1A);
        works.step(1);
        Check.same("the bits that both have", works.bus(), 0x10);
        Check.same("both drove", works.drivers(), 65);
        Check.same("a fight", works.fights(), 1);
        works.reset();
        Check.same("a reset leaves the bus", works.bus(), 0x10);
        Check.same("a reset leaves the drivers", works.drivers(), 65);
    }
}
