/** The boundaries that the terms name of instructions, absent pages, lost ways and interrupts. */
final class BoundariesOfInstructions {
    /** The ways in which an instruction is taken back: a reset, a fault, giving way, a lost way. */
    private static final String WAYS_BACK = "rfql";
    private static final int STEPS_TO_THE_END = 25;

    static void run() {
        begunAgainAsAtOnce();
        beginsAtTheAddress0();
        beginsWithoutExchangeAndReturns();
        whatIsKept();
        whatCallsSetIsKept();
        takenBack();
        allCellsAreTakenBack();
        takenBackExchangeAndReturns();
        takenBackNextAddress();
        takenBackHiddenPartsStay();
        pagesAtFirst();
        pageFault();
        whatAPageFaultDoes();
        orderOfAFault();
        waitsForThePage();
        cyclesOfAFault();
        noWordAtTheNextAddress();
        lostUntilReset();
        otherwiseItRuns();
        whenAnInterruptIsTaken();
        whatAnInterruptDoes();
        givingWay();
    }

    private static String visible(MicrostoreWorks works) {
        StringBuilder text = new StringBuilder();
        for (char part : "PZCSIK".toCharArray()) {
            text.append(part).append(works.part(part)).append(' ');
        }
        for (int i = 0; i < 4; i++) {
            text.append("r").append(works.register(i)).append(' ');
        }
        for (int i = 0; i < 64; i++) {
            text.append(works.cell(i)).append(' ');
        }
        return text.toString();
    }

    // ---- an object that has much to be taken back

    /** Behind one interrupt no visible part but Z is 0, and no cell; then words change all parts but S, I and K. */
    private static MicrostoreWorks furnished(char way) {
        MicrostoreWorks works = new MicrostoreWorks();
        Bench.keepPlace(works, 7);
        Bench.putFlags(works, 0, 0, 1);
        works.write(2, 0, 0, 0, 0, 'e', 0, 0);
        works.run(1);
        for (int i = 0; i < 4; i++) {
            works.setRegister(i, 11 + i);
        }
        for (int i = 0; i < 64; i++) {
            works.setCell(i, 100 + i);
        }
        works.start(50, 1, true);
        putRegisters(works);
        Bench.put(works, 8, 0x25, House.TO_P + House.TO_U);
        Bench.putFlags(works, 9, 1, 1);
        works.write(11, 0, 0, 0, 0, 'o', 15, 2 * 3);
        putCell(works, 15, 33, 0x77);
        putCell(works, 18, 34, 0x78);
        putCell(works, 21, 33, 0x79);
        works.write(24, 0, 0, 0, 0, 'c', 26, House.FLAGS);
        works.write(25, 0, 0, 0, 0, 'n', 27, 0);
        works.write(26, 0, 0, 0, 0, 'p', 0, 0);
        works.setCatch(0, 64);
        works.patch(64, 25, 27);
        Bench.put(works, 27, 0x5A, House.TO_X);
        putTheEnd(works, way);
        return works;
    }

    private static void putRegisters(MicrostoreWorks works) {
        for (int i = 0; i < 4; i++) {
            Bench.put(works, 2 * i, (i + 1) % 4, House.TO_X);
            Bench.put(works, 2 * i + 1, 0x90 + i, House.TO_FIRST);
        }
    }

    private static void putCell(MicrostoreWorks works, int address, int cell, int value) {
        Bench.put(works, address, cell, House.TO_A);
        Bench.put(works, address + 1, value, House.TO_D);
        works.write(address + 2, 0, 0, 0, House.WRITE, 'n', address + 3, 0);
    }

    private static void putTheEnd(MicrostoreWorks works, char way) {
        if (way == 'f') {
            works.setPage(3, false);
            works.write(28, House.CONSTANT, 0, House.TO_A, House.READ, 'n', 0, 0);
            works.setConstant(28, 60);
        } else if (way == 'q') {
            works.write(28, 0, 0, 0, 0, 'q', 5, 0);
        }
    }

    /** The last micro-step ahead of the end was done. */
    private static MicrostoreWorks disturbed(char way) {
        MicrostoreWorks works = furnished(way);
        Check.same("as many micro-steps", works.step(STEPS_TO_THE_END), STEPS_TO_THE_END);
        Check.same("not taken back yet", works.next(), 28);
        Check.same("exchanged", works.part('E'), 1);
        Check.same("a return", works.returns(), 1);
        return works;
    }

    private static MicrostoreWorks takenBack(char way) {
        MicrostoreWorks works = disturbed(way);
        if (way == 'r') {
            works.reset();
        } else {
            works.step(1);
        }
        Check.same("state", works.state(), way == 'f' ? 'w' : way == 'l' ? 'l' : 'r');
        return works;
    }

    // ---- instructions

    private static MicrostoreWorks housed(int set, int operation) {
        MicrostoreWorks works = House.make();
        for (int i = 0; i < 64; i++) {
            works.setCell(i, 3 * i % 256);
        }
        House.load(works, 15, House.code(operation, 1, 2), House.code(set == 1 ? 12 : 3, 2, 1), 41);
        works.setRegister(1, 200);
        works.setRegister(2, 0xF0);
        works.start(15, set, true);
        return works;
    }

    private static void begunAgainAsAtOnce() {
        Sentence.terms("What an instruction does when it is begun again is what it does at once.");
        for (int i = 0; i < 32; i++) {
            MicrostoreWorks atOnce = housed(i / 16, i % 16);
            atOnce.run(1);
            Check.same("right", atOnce.wrong(), 0);
            long steps = atOnce.cycles();
            String due = visible(atOnce);
            for (int done = 1; done < steps; done++) {
                MicrostoreWorks again = housed(i / 16, i % 16);
                again.step(done);
                again.reset();
                again.run(1);
                Check.same(i + " taken back behind " + done, visible(again), due);
            }
            for (int page = 0; page < 4; page++) {
                MicrostoreWorks again = housed(i / 16, i % 16);
                again.setPage(page, false);
                again.run(1);
                if (again.state() == 'w') {
                    again.setPage(page, true);
                    again.run(1);
                }
                Check.same(i + " with the page " + page, visible(again), due);
                Check.same("one instruction", again.ended(), 1);
            }
        }
    }

    private static void beginsAtTheAddress0() {
        Sentence.terms("An instruction begins at the address 0, at first, when another one has ended or was taken back,"
                + " and behind an interrupt;");
        Check.same("at first", new MicrostoreWorks().next(), 0);
        for (char order : "eskgq".toCharArray()) {
            for (int waits = 0; waits < 2; waits++) {
                MicrostoreWorks works = new MicrostoreWorks();
                works.start(9, 0, true);
                works.write(0, 0, 0, 0, 0, 'n', 5, 0);
                works.write(5, House.CONSTANT, 5, 0, 0, order, 7, 0);
                if (waits == 1) {
                    works.interrupt();
                }
                works.step(1);
                Check.same("within", works.next(), 5);
                works.step(1);
                Check.same("behind '" + order + "'", works.next(), 0);
            }
        }
        for (char way : WAYS_BACK.toCharArray()) {
            Check.same("taken back " + way, takenBack(way).next(), 0);
        }
    }

    /** E is 1, four returns are on the row, and the order is to come. */
    private static MicrostoreWorks exchangedWithReturns(char order) {
        MicrostoreWorks works = new MicrostoreWorks();
        works.start(9, 0, true);
        for (int i = 0; i < 4; i++) {
            works.write(i, 0, 0, 0, 0, 'c', i + 1, 0);
        }
        works.write(4, 0, 0, 0, 0, 'p', 0, 0);
        works.setCatch(0, 64);
        works.write(5, House.CONSTANT, 0, 0, 0, order, 7, 0);
        works.setConstant(5, 1);
        works.patch(64, 5, 7);
        works.step(5);
        Check.same("E", works.part('E'), 1);
        Check.same("returns", works.returns(), 4);
        return works;
    }

    private static void beginsWithoutExchangeAndReturns() {
        Sentence.terms("E is 0 then, and the row of returns is empty.");
        Check.same("E at first", new MicrostoreWorks().part('E'), 0);
        Check.same("returns at first", new MicrostoreWorks().returns(), 0);
        for (char order : "eskgq".toCharArray()) {
            for (int waits = 0; waits < 2; waits++) {
                MicrostoreWorks works = exchangedWithReturns(order);
                if (waits == 1) {
                    works.interrupt();
                }
                works.step(1);
                Check.same("E behind '" + order + "'", works.part('E'), 0);
                Check.same("returns behind '" + order + "'", works.returns(), 0);
                works.write(0, 0, 0, 0, 0, 'r', 7, 0);
                works.step(1);
                Check.same("none to go back to", works.next(), -1);
            }
        }
    }

    private static void whatIsKept() {
        Sentence.terms("When it begins, what visible parts and cells are is kept;");
        for (char way : "rfql".toCharArray()) {
            MicrostoreWorks works = new MicrostoreWorks();
            Bench.put(works, 0, 21, House.TO_A + House.TO_D + House.TO_P + House.TO_FIRST);
            works.write(1, 0, 6, House.TO_T, House.WRITE, 's', 0, House.FLAGS);
            works.run(1);
            String kept = visible(works);
            Check.same("a first instruction has ended", works.register(0) + works.cell(21), 42);
            works.setPage(3, false);
            Bench.put(works, 0, 22, House.TO_D + House.TO_P + House.TO_FIRST);
            works.write(1, 0, 0, 0, House.WRITE, 'n', 2, House.FLAGS);
            if (way != 'l') {
                works.write(2, House.CONSTANT, 0, House.TO_A, way == 'f' ? House.READ : 0, 'q', 0, 0);
                works.setConstant(2, 60);
            }
            works.step(2);
            Check.same("the second one changes them", works.register(0) + works.cell(21), 44);
            if (way == 'r') {
                works.reset();
            } else {
                works.step(1);
            }
            Check.same("as it began, " + way, visible(works), kept);
        }
    }

    private static void whatCallsSetIsKept() {
        Sentence.terms("what calls set ahead of its first micro-step is kept, too.");
        for (char way : WAYS_BACK.toCharArray()) {
            MicrostoreWorks works = furnished(way);
            String set = visible(works);
            Check.same("sound", works.isSound(), true);
            works.step(STEPS_TO_THE_END);
            if (way == 'r') {
                works.reset();
            } else {
                works.step(1);
            }
            Check.same("as it was set, " + way, visible(works), set);
            works.setRegister(3, 77);
            works.setCell(63, 78);
            works.start(63, 0, false);
            set = visible(works);
            works.setPage(3, true);
            works.reset();
            works.step(STEPS_TO_THE_END);
            works.reset();
            Check.same("as it was set ahead of the next one, " + way, visible(works), set);
        }
    }

    private static void takenBack() {
        Sentence.terms("When it is taken back, all visible parts are as they were kept, and so are all cells that it"
                + " wrote;");
        for (char way : WAYS_BACK.toCharArray()) {
            String kept = visible(furnished(way));
            MicrostoreWorks works = disturbed(way);
            for (int i = 0; i < 4; i++) {
                Check.same("register " + i + " has changed", works.register(i), 0x90 + (i + 3) % 4);
            }
            Check.same("P has changed", works.part('P'), 0x25);
            Check.same("cells have changed", works.cell(33) + works.cell(34), 0x79 + 0x78);
            Check.same("taken back " + way, visible(takenBack(way)), kept);
        }
        Check.same("Z and C have changed", Bench.flags(disturbed('r')), 2);
        MicrostoreWorks found = disturbed('r');
        Bench.flags(found);
        found.reset();
        Check.same("taken back behind flags were found", visible(found), visible(furnished('r')));
    }

    private static void allCellsAreTakenBack() {
        Sentence.terms("and so are all cells that it wrote;");
        MicrostoreWorks works = new MicrostoreWorks();
        for (int cell = 0; cell < 64; cell++) {
            works.setCell(cell, 200 - cell);
        }
        works.write(0, House.T, 5, House.TO_T + House.TO_A + House.TO_D, House.WRITE, 'n', 0, 0);
        works.step(100);
        works.step(100);
        for (int cell = 0; cell < 64; cell++) {
            Check.same("written three times", works.cell(cell), cell >= 1 && cell <= 8 ? 192 + cell : 128 + cell
                    + (cell == 0 ? 64 : 0));
        }
        works.reset();
        for (int cell = 0; cell < 64; cell++) {
            Check.same("taken back, " + cell, works.cell(cell), 200 - cell);
        }
        works.step(100);
        works.write(0, 0, 0, 0, 0, 'e', 0, 0);
        works.step(1);
        checkNextOneIsTakenBack("behind one that wrote all cells", works);
        checkOneCellWrittenOften();
        MicrostoreWorks many = new MicrostoreWorks();
        many.write(0, House.T, 5, House.TO_T + House.TO_A + House.TO_D, House.WRITE, 'e', 0, 0);
        many.step(100);
        many.step(30);
        Check.same("ended", many.ended(), 130);
        checkNextOneIsTakenBack("behind many that wrote", many);
        checkNextOneIsTakenBack("the first one", new MicrostoreWorks());
    }

    private static void checkNextOneIsTakenBack(String what, MicrostoreWorks works) {
        String kept = visible(works);
        works.write(0, House.T, 5, House.TO_T + House.TO_A + House.TO_D, House.WRITE, 'n', 0, 0);
        works.step(70);
        Check.same(what + ", changed", visible(works).equals(kept), false);
        works.reset();
        Check.same(what, visible(works), kept);
    }

    private static void checkOneCellWrittenOften() {
        MicrostoreWorks works = new MicrostoreWorks();
        works.setCell(0, 9);
        works.setCell(1, 8);
        works.write(0, 0, 0, 0, House.WRITE, 'n', 0, 0);
        works.step(100);
        Bench.put(works, 0, 1, House.TO_A);
        works.write(1, 0, 0, 0, House.WRITE, 'n', 2, 0);
        works.step(2);
        Check.same("both are written", works.cell(0) + works.cell(1), 0);
        works.reset();
        Check.same("written a hundred times", works.cell(0), 9);
        Check.same("and another one behind it", works.cell(1), 8);
        works.write(0, 0, 0, House.TO_A, House.WRITE, 'e', 0, 0);
        works.step(100);
        Bench.put(works, 0, 1, House.TO_A);
        works.step(2);
        Check.same("written", works.cell(1), 0);
        works.reset();
        Check.same("written by a hundred that ended", works.cell(0), 0);
        Check.same("and another one by the next one", works.cell(1), 8);
    }

    private static void takenBackExchangeAndReturns() {
        Sentence.terms("E is 0, and the row of returns is empty; the next");
        for (char way : WAYS_BACK.toCharArray()) {
            MicrostoreWorks works = takenBack(way);
            Check.same("E, " + way, works.part('E'), 0);
            Check.same("returns, " + way, works.returns(), 0);
        }
        MicrostoreWorks full = exchangedWithReturns('n');
        full.reset();
        Check.same("E", full.part('E'), 0);
        Check.same("none of four", full.returns(), 0);
    }

    private static void takenBackNextAddress() {
        Sentence.terms("the next address is 0; T, U");
        for (char way : WAYS_BACK.toCharArray()) {
            Check.same("next, " + way, takenBack(way).next(), 0);
        }
    }

    private static void takenBackHiddenPartsStay() {
        Sentence.terms("T, U, A, D and X stay.");
        for (char way : WAYS_BACK.toCharArray()) {
            MicrostoreWorks works = takenBack(way);
            Check.same("T, " + way, works.part('T'), 255);
            Check.same("U, " + way, works.part('U'), 0x25);
            Check.same("A, " + way, works.part('A'), way == 'f' ? 60 : 33);
            Check.same("D, " + way, works.part('D'), 0x79);
            Check.same("X, " + way, works.part('X'), 0x5A);
        }
    }

    // ---- absent pages

    private static void pagesAtFirst() {
        Sentence.terms("All pages are present at first.");
        for (int cell = 0; cell < 64; cell++) {
            MicrostoreWorks works = new MicrostoreWorks();
            works.write(0, House.CONSTANT, 0, House.TO_A, 1 + cell % 2, 'n', 1, 0);
            works.setConstant(0, cell);
            works.step(1);
            Check.same("faults with " + cell, works.faults(), 0);
        }
        for (int page = 0; page < 4; page++) {
            Check.same("page " + page, new MicrostoreWorks().setPage(page, false), true);
        }
    }

    /** A is this cell and D is 5, of which no page is absent but this one; then a word with this action and order. */
    private static MicrostoreWorks reaching(int cell, int absentPage, int memory, char order) {
        MicrostoreWorks works = new MicrostoreWorks();
        works.setCell(cell, 9);
        Bench.put(works, 0, cell, House.TO_A);
        Bench.put(works, 1, 5, House.TO_D);
        works.write(2, 0, 6, House.TO_T, memory, order, 7, House.FLAGS);
        works.setPage(absentPage, false);
        works.step(2);
        return works;
    }

    private static void pageFault() {
        Sentence.terms("If a micro-step reads or writes a cell of an absent page, this is a page fault:");
        for (int cell : new int[] {0, 15, 16, 31, 32, 47, 48, 63}) {
            for (int memory = 0; memory < 3; memory++) {
                MicrostoreWorks works = reaching(cell, cell / 16, memory, 'n');
                works.step(1);
                Check.same("cell " + cell + " action " + memory, works.faults(), memory == 0 ? 0 : 1);
                MicrostoreWorks other = reaching(cell, (cell / 16 + 1) % 4, memory, 'n');
                other.step(1);
                Check.same("another page is absent", other.faults(), 0);
            }
        }
        MicrostoreWorks works = new MicrostoreWorks();
        works.setPage(0, false);
        works.setPage(1, false);
        works.write(0, House.CONSTANT, 0, House.TO_A, House.READ, 'n', 0, 0);
        works.setConstant(0, 64 + 32);
        works.step(1);
        Check.same("the place, not the byte, tells the page", works.faults(), 0);
        works.setConstant(0, 31);
        works.step(1);
        Check.same("the place as it is now", works.faults(), 1);
    }

    private static void whatAPageFaultDoes() {
        Sentence.terms("nothing is read or written, the order is not looked at, the instruction is taken back,");
        for (int memory = 1; memory < 3; memory++) {
            MicrostoreWorks works = reaching(40, 2, memory, 'e');
            works.step(1);
            Check.same("nothing is read", works.part('D'), 5);
            Check.same("nothing is written", works.cell(40), 9);
            Check.same("it does not end", works.ended(), 0);
            Check.same("taken back", works.next(), 0);
            Check.same("what listens has heard", works.part('T'), 255);
            Check.same("no flags are told", Bench.flags(works) + works.found(), 0);
            Check.same("not begun again", works.setRegister(0, 1), 0);
        }
        Check.same("all is taken back", visible(takenBack('f')), visible(furnished('f')));
    }

    private static void orderOfAFault() {
        Sentence.terms("the order is not looked at");
        for (char order : "nodpeskgq".toCharArray()) {
            MicrostoreWorks works = reaching(40, 2, House.READ, order);
            works.interrupt();
            works.reset();
            works.start(33, 1, true);
            if (order == 'o') {
                works.write(2, 0, 6, 0, House.READ, 'o', 8, 15);
            }
            Check.same("the third one faults", works.step(9), 3);
            Check.same("no interrupt is taken with '" + order + "'", works.taken(), 0);
            Check.same("none ended", works.ended(), 0);
            Check.same("no flags were found", works.found(), 0);
            Check.same("next", works.next(), 0);
            Check.same("E", works.part('E'), 0);
            Check.same("S", works.part('S'), 1);
            Check.same("I", works.part('I'), 1);
            Check.same("P", works.part('P'), 33);
            Check.same("waits", works.state(), 'w');
        }
    }

    private static void waitsForThePage() {
        Sentence.terms("and the processor waits, 'w', until this page is made present.");
        for (int page = 0; page < 4; page++) {
            MicrostoreWorks works = reaching(16 * page + 15, page, House.READ, 'n');
            Check.same("not yet", works.state(), 'r');
            works.step(1);
            Check.same("waits", works.state(), 'w');
            Check.same("no micro-step", works.step(100), 0);
            Check.same("no instruction", works.run(20), 0);
            for (int other = 0; other < 4; other++) {
                works.setPage(other, other != page);
            }
            works.reset();
            works.interrupt();
            Check.same("still waits", works.state(), 'w');
            Check.same("it was absent", works.setPage(page, true), false);
            Check.same("runs", works.state(), 'r');
            works.setPage(page, false);
            Check.same("runs also if it is absent again", works.state(), 'r');
            Check.same("three micro-steps, and a fault", works.step(9), 3);
            Check.same("waits again", works.state(), 'w');
            Check.same("faults", works.faults(), 2);
        }
    }

    private static void cyclesOfAFault() {
        Sentence.terms("The micro-step counts with its cycles.");
        for (int wait : new int[] {0, 9}) {
            MicrostoreWorks works = reaching(40, 2, House.READ, 'n');
            works.setWait(wait);
            Check.same("it counts", works.step(5), 1);
            Check.same("its cycles", works.cycles(), 2 + 1 + wait);
        }
    }

    // ---- lost ways

    /** The next address is one where no word is: 0 at first, 5, 80, or -1. */
    private static MicrostoreWorks astray(int next) {
        MicrostoreWorks works = new MicrostoreWorks();
        works.start(9, 1, true);
        if (next == 5) {
            works.write(0, 0, 0, House.TO_P, 0, 'n', 5, 0);
            works.step(1);
        } else if (next == -1) {
            works.write(0, 0, 0, House.TO_P, 0, 'd', 5, 0);
            works.step(1);
        } else if (next == 80) {
            works.write(0, 0, 0, House.TO_P, 0, 'n', 79, 0);
            works.write(1, 0, 0, 0, 0, 'c', 2, 0);
            works.write(2, 0, 0, 0, 0, 'r', 0, 0);
            works.patch(79, 1, 2);
            works.step(3);
        }
        Check.same("next", works.next(), next);
        Check.same("not lost yet", works.state(), 'r');
        return works;
    }

    private static void noWordAtTheNextAddress() {
        Sentence.terms("If a micro-step should be done, and there is no word at the next address, none is done;");
        for (int next : new int[] {0, 5, 80, -1}) {
            MicrostoreWorks works = astray(next);
            long cycles = works.cycles();
            Check.same("none is done", works.step(1), 0);
            Check.same("no cycles", works.cycles(), cycles);
            Check.same("lost", works.state(), 'l');
            works = astray(next);
            Check.same("no instruction", works.run(1), 0);
            Check.same("lost by it", works.state(), 'l');
        }
    }

    private static void lostUntilReset() {
        Sentence.terms("the instruction is taken back, and the processor is lost, 'l', until it is reset.");
        for (int next : new int[] {0, 5, 80, -1}) {
            MicrostoreWorks works = astray(next);
            works.step(1);
            Check.same("taken back", works.part('P'), 9);
            Check.same("next", works.next(), 0);
            works.write(0, 0, 0, 0, 0, 'e', 0, 0);
            works.write(5, 0, 0, 0, 0, 'e', 0, 0);
            works.setEntry(1, 0, 5);
            works.interrupt();
            works.setPage(0, false);
            works.setPage(0, true);
            works.start(9, 1, true);
            Check.same("still lost", works.state(), 'l');
            Check.same("no micro-step", works.step(100), 0);
            Check.same("no instruction", works.run(20), 0);
            works.reset();
            Check.same("runs", works.state(), 'r');
            Check.same("one instruction", works.run(1), 1);
        }
    }

    private static void otherwiseItRuns() {
        Sentence.terms("Otherwise, if it does not wait, it runs, 'r'.");
        MicrostoreWorks works = House.make();
        Check.same("at first", works.state(), 'r');
        works.setPage(0, false);
        Check.same("a page is absent", works.state(), 'r');
        works.setPage(0, true);
        for (int i = 0; i < 20; i++) {
            works.step(1);
            Check.same("within instructions and behind them", works.state(), 'r');
        }
    }

    // ---- interrupts

    private static void whenAnInterruptIsTaken() {
        Sentence.terms("When an instruction has ended or given way, an interrupt that waits is taken, if I is 1:");
        for (char order : "eskgq".toCharArray()) {
            for (int i = 0; i < 8; i++) {
                MicrostoreWorks works = new MicrostoreWorks();
                works.start(9, 0, i % 2 == 1);
                works.write(0, 0, 0, 0, 0, 'n', 1, 0);
                works.write(1, House.CONSTANT, 0, 0, 0, order, 0, 0);
                works.setConstant(1, i / 4);
                if (i / 2 % 2 == 1) {
                    works.interrupt();
                }
                works.step(1);
                Check.same("not within an instruction", works.taken(), 0);
                works.step(1);
                boolean isOpen = order == 'k' || (order == 'g' ? i / 4 == 1 : i % 2 == 1);
                Check.same(order + " " + i, works.taken(), isOpen && i / 2 % 2 == 1 ? 1 : 0);
            }
        }
        for (char way : "rfl".toCharArray()) {
            MicrostoreWorks works = disturbed(way);
            works.interrupt();
            works.step(1);
            works.reset();
            works.start(8, 0, true);
            Check.same("not where it is taken back " + way, works.taken(), 1);
            works.write(0, 0, 0, 0, 0, 'e', 0, 0);
            works.setPage(3, true);
            works.run(1);
            Check.same("but where the next one ends", works.taken(), 2);
        }
    }

    private static void whatAnInterruptDoes() {
        Sentence.terms("K becomes P, P becomes the vector, which is 48 at first, S and I become 0, and no interrupt"
                + " waits any more.");
        for (int vector : new int[] {-1, 0, 48, 63}) {
            for (int place : new int[] {0, 62, 63}) {
                MicrostoreWorks works = new MicrostoreWorks();
                works.start(place, 1, true);
                works.interrupt();
                works.interrupt();
                if (vector >= 0) {
                    works.setVector(vector);
                }
                works.write(0, House.P, 5, House.TO_P, 0, 'e', 0, 0);
                works.step(1);
                Check.same("K", works.part('K'), (place + 1) % 64);
                Check.same("P", works.part('P'), vector < 0 ? 48 : vector);
                Check.same("S", works.part('S'), 0);
                Check.same("I", works.part('I'), 0);
                Check.same("one for both calls", works.taken(), 1);
                works.reset();
                works.start(5, 0, true);
                works.step(1);
                Check.same("none waits any more", works.taken(), 1);
                Check.same("none waited", works.interrupt(), false);
            }
        }
    }

    private static void givingWay() {
        Sentence.terms("An instruction that gives way is taken back first, and is begun again if no interrupt is"
                + " taken.");
        Check.same("begun again", visible(takenBack('q')), visible(furnished('q')));
        MicrostoreWorks works = disturbed('q');
        works.interrupt();
        works.step(1);
        Check.same("taken", works.taken(), 2);
        Check.same("K is P as it was kept", works.part('K'), 50);
        Check.same("P", works.part('P'), 48);
        Check.same("a register is taken back", works.register(2), 13);
        Check.same("a cell is taken back", works.cell(33), 133);
        Check.same("flags are taken back", Bench.flags(works), 1);
        works.step(5);
        works.reset();
        Check.same("the interrupt is not taken back", works.part('P'), 48);
        MicrostoreWorks shut = furnished('q');
        shut.start(50, 1, false);
        shut.interrupt();
        Check.same("gives way twice", shut.step(52), 52);
        Check.same("not with I 0", shut.taken(), 1);
        Check.same("P", shut.part('P'), 50);
        Check.same("none ended", shut.ended(), 2);
    }
}
