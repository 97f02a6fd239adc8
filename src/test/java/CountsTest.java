/** Promises 31 to 42: counts, shares, and the check of the processor. */
public final class CountsTest {
    private static final Class<IndexOutOfBoundsException> INDEX = IndexOutOfBoundsException.class;
    private static final Class<java.util.NoSuchElementException> NO_SUCH = java.util.NoSuchElementException.class;
    private static final Class<ArithmeticException> ARITHMETIC = ArithmeticException.class;

    public static void main(String[] args) {
        promise31To33EndedAndWrong();
        promise32EachVisiblePartIsJudged();
        promise32EachCellIsJudged();
        promise34Fights();
        promise35Faults();
        promise36Taken();
        promise37Found();
        promise38Cycles();
        promise39CyclesOf();
        promise39CyclesOfRefuses();
        promise40And41Shares();
        promise42IsSound();
        Check.finish();
    }

    private static void promise31To33EndedAndWrong() {
        MicrostoreWorks works = House.make();
        Refusal.check("none was wrong", House::make, NO_SUCH, MicrostoreWorks::firstWrong);
        Check.same("none ended", works.ended(), 0);
        works.step(3);
        Check.same("not ended yet", works.ended(), 0);
        works.step(1);
        Check.same("one", works.ended(), 1);
        Check.refuses("none was wrong", NO_SUCH, works::firstWrong);
        works.start(17, 0, false);
        works.setCell(17, House.code(5, 0, 0));
        works.write(11, House.FIRST, 6, House.TO_FIRST, 0, 'e', 0, 1);
        works.setRegister(0, 5);
        works.run(1);
        Check.same("two", works.ended(), 2);
        Check.same("one wrong", works.wrong(), 1);
        Check.same("where it began", works.firstWrong(), 17);
        works.start(33, 0, false);
        works.setCell(33, House.code(5, 0, 0));
        works.run(2);
        Check.same("four", works.ended(), 4);
        Check.same("two wrong", works.wrong(), 2);
        Check.same("the first one stays", works.firstWrong(), 17);
        works.reset();
        Check.same("what is taken back has not ended", works.ended(), 4);
        Check.same("one of the scene's, too", Scene.idle().wrong(), 1);
        Check.same("it began at the jump", Scene.idle().firstWrong(), 21);
        MicrostoreWorks zero = new MicrostoreWorks();
        zero.write(0, 0, 0, 0, 0, 'e', 0, 0);
        zero.run(1);
        Check.same("P does not increase", zero.wrong(), 1);
        Check.same("at the place 0", zero.firstWrong(), 0);
    }

    /** An instruction that does nothing as its definition says, but for one thing more. */
    private static int wrongOf(int drive, int combine, int listen, char order, int more) {
        MicrostoreWorks works = House.make();
        works.setRegister(0, 200);
        works.setRegister(1, 60);
        works.start(40, 0, false);
        works.setCell(40, 4);
        works.write(3, drive, combine, listen, 0, order, 0, more);
        works.setConstant(3, 9);
        works.run(1);
        Check.same("ended", works.ended(), 1);
        return works.wrong();
    }

    private static void promise32EachVisiblePartIsJudged() {
        Check.same("nothing more", wrongOf(64, 0, 0, 'e', 0), 0);
        Check.same("hidden parts", wrongOf(64, 0, 1 + 2 + 4 + 8, 'e', 0), 0);
        Check.same("flags as they were", wrongOf(64, 0, 0, 'e', 1), 0);
        Check.same("Z", wrongOf(0, 0, 0, 'e', 1), 1);
        Check.same("C", wrongOf(0, 6, 0, 'e', 1), 1);
        Check.same("P", wrongOf(64, 0, 16, 'e', 0), 1);
        Check.same("P as it was", wrongOf(8, 0, 16, 'e', 0), 0);
        Check.same("first register", wrongOf(64, 0, 32, 'e', 0), 1);
        Check.same("second register", wrongOf(64, 0, 64, 'e', 0), 1);
        Check.same("second register as it was", wrongOf(32, 0, 64, 'e', 0), 0);
        Check.same("S", wrongOf(0, 0, 0, 's', 0), 1);
        Check.same("I", wrongOf(64, 0, 0, 'g', 0), 1);
        Check.same("I as it was", wrongOf(0, 0, 0, 'g', 0), 0);
        Check.same("P becomes K, I becomes 1", wrongOf(0, 0, 0, 'k', 0), 1);
    }

    /** An instruction that must do nothing and writes three cells, as they were or otherwise. */
    private static void promise32EachCellIsJudged() {
        for (int cell = 0; cell < 64; cell++) {
            int second = (cell + 20) % 64;
            int third = (cell + 40) % 64;
            MicrostoreWorks works = House.make();
            works.start((cell + 1) % 64, 0, false);
            writeBytes(works, cell, 7, cell, 0, third, 0);
            works.run(1);
            Check.same("as it was again", works.wrong(), 0);
            writeBytes(works, second, 0, cell, 7, third, 0);
            works.step(8);
            Check.same("written", works.cell(cell), 7);
            works.reset();
            Check.same("taken back", works.cell(cell), 0);
            works.run(1);
            Check.same("written again", works.cell(cell), 7);
            Check.same("wrong", works.wrong(), 1);
            works.start((cell + 1) % 64, 0, false);
            works.run(1);
            Check.same("it is what was there", works.wrong(), 1);
            writeBytes(works, cell, 3, second, 4, third, 5);
            works.step(7);
            Check.same("written otherwise", works.cell(cell) + works.cell(second), 7);
            works.reset();
            Check.same("taken back to what was kept", works.cell(cell), 7);
            Check.same("and the other one", works.cell(second), 0);
            works.run(1);
            Check.same("wrong again", works.wrong(), 2);
            Check.same("all three", works.cell(cell) * 100 + works.cell(second) * 10 + works.cell(third), 345);
        }
    }

    /** As the operation 0 of the set 0, words that write three cells, one behind another. */
    private static void writeBytes(MicrostoreWorks works, int... cellsAndBytes) {
        for (int i = 0; i < 6; i += 2) {
            works.write(50 + i, 64, 0, House.TO_A, 0, 'n', 51 + i, 0);
            works.setConstant(50 + i, cellsAndBytes[i]);
            works.write(51 + i, 64, 0, House.TO_D, House.WRITE, i == 4 ? 'e' : 'n', 52 + i, 0);
            works.setConstant(51 + i, cellsAndBytes[i + 1]);
        }
        works.setEntry(0, 0, 50);
    }

    private static void promise34Fights() {
        MicrostoreWorks works = new MicrostoreWorks();
        works.write(0, 64, 0, 0, 0, 'n', 1, 0);
        works.write(1, 16 + 32, 0, 0, 0, 'n', 2, 0);
        works.write(2, 127, 0, 0, 0, 'n', 3, 0);
        works.write(3, 0, 0, 0, 0, 'n', 4, 0);
        works.step(1);
        Check.same("one drives", works.fights(), 0);
        works.step(1);
        Check.same("two drive", works.fights(), 1);
        works.step(1);
        Check.same("all drive", works.fights(), 2);
        works.step(1);
        Check.same("none drives", works.fights(), 2);
        works.reset();
        Check.same("they are not taken back", works.fights(), 2);
        works.write(0, 9, 0, 4, 1, 'e', 0, 0);
        works.setPage(0, false);
        works.step(1);
        Check.same("with a page fault", works.fights(), 3);
    }

    private static void promise35Faults() {
        MicrostoreWorks works = House.make();
        works.setPage(0, false);
        works.run(1);
        Check.same("one", works.faults(), 1);
        works.run(1);
        Check.same("none while it waits", works.faults(), 1);
        works.setPage(0, true);
        works.setCell(0, House.code(7, 0, 1));
        works.setRegister(1, 50);
        works.setPage(3, false);
        works.run(1);
        Check.same("two", works.faults(), 2);
        works.reset();
        works.setEntry(0, 7, -1);
        works.setPage(3, true);
        works.run(1);
        Check.same("a lost way is no fault", works.faults(), 2);
    }

    private static void promise36Taken() {
        MicrostoreWorks works = House.make();
        works.interrupt();
        works.run(1);
        Check.same("I is 0", works.taken(), 0);
        works.start(9, 0, true);
        works.run(1);
        Check.same("I is 1", works.taken(), 1);
        works.run(3);
        Check.same("none waits", works.taken(), 1);
        MicrostoreWorks gate = House.make();
        gate.setRegister(0, 1);
        gate.setCell(0, House.code(15, 0, 0));
        gate.interrupt();
        gate.run(1);
        Check.same("by I as it is at the end", gate.taken(), 1);
        Check.same("I", gate.part('I'), 0);
        Check.same("right all the same", gate.wrong(), 0);
        gate.start(0, 0, true);
        gate.setRegister(0, 2);
        gate.interrupt();
        gate.run(1);
        Check.same("I has just become 0", gate.taken(), 1);
    }

    private static void promise37Found() {
        MicrostoreWorks works = House.make();
        House.load(works, 0, House.code(5, 0, 0), House.code(0, 0, 0), House.code(2, 0, 0));
        works.run(1);
        Check.same("found when it is judged", works.found(), 1);
        works.part('Z');
        works.part('C');
        Check.same("not found again", works.found(), 1);
        works.run(1);
        Check.same("none was told", works.found(), 1);
        works.run(1);
        Check.same("found again", works.found(), 2);
        MicrostoreWorks twice = new MicrostoreWorks();
        twice.write(0, 0, 0, 0, 0, 'n', 1, 1);
        twice.write(1, 0, 6, 0, 0, 'e', 0, 1);
        twice.run(1);
        Check.same("told twice, found once", twice.found(), 1);
        twice.write(0, 0, 0, 0, 0, 'n', 1, 1);
        twice.write(1, 0, 0, 0, 0, 'q', 0, 1);
        twice.step(2);
        Check.same("given way, not found", twice.found(), 1);
        Check.same("as they were kept", twice.part('Z') * 2 + twice.part('C'), 1);
        Check.same("not to be found", twice.found(), 1);
    }

    private static void promise38Cycles() {
        MicrostoreWorks works = House.make();
        works.run(1);
        Check.same("one each", works.cycles(), 4);
        works.setWait(9);
        works.run(1);
        Check.same("with the wait", works.cycles(), 4 + 13);
        works.step(2);
        works.reset();
        Check.same("also what is taken back", works.cycles(), 4 + 13 + 11);
        works.setEntry(0, 0, -1);
        works.run(1);
        Check.same("none for a lost way", works.cycles(), 4 + 13 + 11 + 12);
    }

    private static void promise39CyclesOf() {
        for (int operation = 0; operation < 16; operation++) {
            MicrostoreWorks works = House.make();
            works.setCell(0, House.code(operation, 0, 1));
            boolean needsFlag = operation == 9 || operation == 10;
            works.run(1);
            for (int of = 0; of < 16; of++) {
                Check.same("cycles of " + of, works.cyclesOf(0, of), of == operation ? House.STEPS[of] : 0);
                Check.same("not of the set 1", works.cyclesOf(1, of), 0);
            }
            Check.same("no flag is needed to end", needsFlag && works.ended() != 1, false);
        }
        MicrostoreWorks works = House.make();
        House.load(works, 0, House.code(13, 0, 0), 0xF0, House.code(1, 0, 0), House.code(0, 0, 0));
        works.run(1);
        Check.same("S as it was when it began", works.cyclesOf(0, 13), 4);
        works.step(2);
        works.reset();
        Check.same("nothing ended", works.cyclesOf(1, 15), 0);
        works.run(1);
        Check.same("X as it was when it ended", works.cyclesOf(1, 1), 2 + 8);
        Check.same("not by the prefix", works.cyclesOf(1, 15), 0);
        MicrostoreWorks last = House.make();
        last.write(3, 64, 0, House.TO_X, 0, 'e', 0, 0);
        last.setConstant(3, 0x9F);
        last.run(1);
        Check.same("X heard by the last word", last.cyclesOf(0, 9), 4);
    }

    private static void promise39CyclesOfRefuses() {
        Refusal.check("set -1", Scene::idle, INDEX, works -> works.cyclesOf(-1, 0));
        Refusal.check("set 2", Scene::idle, INDEX, works -> works.cyclesOf(2, 0));
        Refusal.check("operation -1", Scene::idle, INDEX, works -> works.cyclesOf(1, -1));
        Refusal.check("operation 16", Scene::idle, INDEX, works -> works.cyclesOf(0, 16));
    }

    private static void promise40And41Shares() {
        MicrostoreWorks works = House.make();
        Refusal.check("no cycles", House::make, ARITHMETIC, MicrostoreWorks::usedShare);
        Refusal.check("none ended", House::make, ARITHMETIC, MicrostoreWorks::meanCycles);
        works.step(3);
        Check.same("none used", works.usedShare(), 0.0f);
        Check.refuses("none ended yet", ARITHMETIC, works::meanCycles);
        works.step(1);
        Check.same("all used", works.usedShare(), 1.0f);
        Check.same("mean", works.meanCycles(), 4.0);
        works.setCell(1, House.code(2, 0, 0));
        works.step(6);
        Check.same("some used", works.usedShare(), 9.0f / 10.0f);
        Check.same("mean of two", works.meanCycles(), 4.5);
        works.reset();
        works.run(1);
        Check.same("what was taken back counts", works.usedShare(), 1.0f);
        Check.same("mean of three", works.meanCycles(), 14.0 / 3.0);
    }

    private static void promise42IsSound() {
        MicrostoreWorks works = House.make();
        Check.same("at first", works.isSound(), true);
        works.setRegister(0, 255);
        works.setCell(0, House.code(2, 0, 0));
        works.start(0, 0, true);
        Check.same("set by calls", works.isSound(), true);
        for (int i = 0; i < 30; i++) {
            works.step(1);
            Check.same("within", works.isSound(), true);
        }
        works.interrupt();
        works.run(1);
        Check.same("behind an interrupt", works.isSound(), true);
        works.step(2);
        works.reset();
        Check.same("reset", works.isSound(), true);
        works.write(0, 0, 0, 0, 0, 'c', 0, 0);
        works.step(7);
        Check.same("with four returns", works.returns(), 4);
        Check.same("sound with four returns", works.isSound(), true);
        MicrostoreWorks late = new MicrostoreWorks();
        late.write(0, 0, 0, 0, 0, 'n', 0, 1);
        late.step(2);
        late.isSound();
        Check.same("it finds no flags", late.found(), 0);
    }
}
