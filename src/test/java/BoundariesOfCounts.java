/** The boundaries that the promises 31 to 42 name. */
final class BoundariesOfCounts {
    static void run() {
        promise31Ended();
        promise32Wrong();
        promise33FirstWrong();
        promise34Fights();
        promise35Faults();
        promise36Taken();
        promise37Found();
        promise38Cycles();
        promise39CyclesOf();
        promise39TakenBack();
        promise39Arguments();
        promise40UsedShare();
        promise41MeanCycles();
        promise42Parts();
        promise42Returns();
        promise42Cycles();
        promise42Kept();
        promise42All();
    }

    private static void promise31Ended() {
        Sentence.promise(31, "Returns the number of instructions that ended.");
        MicrostoreWorks works = House.make();
        Check.same("at first", works.ended(), 0);
        works.step(3);
        Check.same("one micro-step ahead of its end", works.ended(), 0);
        works.step(1);
        Check.same("one", works.ended(), 1);
        works.step(3);
        works.reset();
        Check.same("not one that is taken back", works.ended(), 1);
        works.setPage(0, false);
        works.step(1);
        works.setPage(0, true);
        Check.same("not one that faults", works.ended(), 1);
        for (char order : "eskgq".toCharArray()) {
            MicrostoreWorks one = new MicrostoreWorks();
            one.write(0, 0, 0, 0, 0, order, 0, 0);
            one.step(100);
            Check.same("by '" + order + "'", one.ended(), order == 'q' ? 0 : 100);
        }
    }

    private static void promise32Wrong() {
        Sentence.promise(32, "Returns the number of instructions that ended and were wrong.");
        MicrostoreWorks works = House.make();
        Check.same("at first", works.wrong(), 0);
        works.run(20);
        Check.same("none of 20", works.wrong(), 0);
        works.write(3, 0, 6, House.TO_FIRST, 0, 'n', 4, 0);
        works.write(4, 0, 0, 0, 0, 'e', 0, 0);
        works.step(4);
        Check.same("not ended yet", works.wrong(), 0);
        works.reset();
        works.run(2);
        Check.same("the first one, not the one that finds it so", works.wrong(), 1);
        works.setRegister(0, 7);
        works.run(1);
        Check.same("two", works.wrong(), 2);
    }

    private static void promise33FirstWrong() {
        Sentence.promise(33, "Returns the place P at which the first wrong instruction began.");
        for (int place : new int[] {0, 1, 62, 63}) {
            MicrostoreWorks works = new MicrostoreWorks();
            works.write(0, House.P, 5, House.TO_P, 0, 'e', 0, 0);
            works.start((place + 62) % 64, 0, false);
            works.run(2);
            Check.same("none was wrong", works.wrong(), 0);
            works.write(0, House.P, 6, House.TO_P, 0, 'e', 0, 0);
            works.run(1);
            Check.same("the place", works.firstWrong(), place);
            works.run(3);
            Check.same("four are wrong", works.wrong(), 4);
            Check.same("the first one stays", works.firstWrong(), place);
        }
        Sentence.promise(33, "Throws `NoSuchElementException` if none was wrong");
        Refusal.check("at first", MicrostoreWorks::new, Refusal.NO_SUCH, it -> it.firstWrong());
        Refusal.check("20 were right", () -> {
            MicrostoreWorks works = House.make();
            works.run(20);
            return works;
        }, Refusal.NO_SUCH, it -> it.firstWrong());
    }

    private static void promise34Fights() {
        Sentence.promise(34, "`int fights()`: Returns the number of fights.");
        Check.same("at first", new MicrostoreWorks().fights(), 0);
        for (int drive = 0; drive < 128; drive++) {
            MicrostoreWorks works = new MicrostoreWorks();
            works.write(0, drive, 0, 0, 0, 'n', 0, 0);
            works.step(3);
            works.reset();
            Check.same("thrice " + drive, works.fights(), Integer.bitCount(drive) > 1 ? 3 : 0);
        }
        MicrostoreWorks faults = new MicrostoreWorks();
        faults.write(0, 3, 0, 0, House.READ, 'n', 0, 0);
        faults.setPage(0, false);
        faults.step(9);
        Check.same("one that faults", faults.fights(), 1);
    }

    private static void promise35Faults() {
        Sentence.promise(35, "Returns how often instructions were taken back by page faults.");
        MicrostoreWorks works = new MicrostoreWorks();
        Check.same("at first", works.faults(), 0);
        works.write(0, 0, 0, 0, House.READ, 'q', 0, 0);
        works.step(1);
        works.step(1);
        works.reset();
        Check.same("not by giving way or a reset", works.faults(), 0);
        for (int times = 1; times <= 3; times++) {
            works.setPage(0, false);
            works.step(100);
            works.step(100);
            Check.same("" + times, works.faults(), times);
            works.setPage(0, true);
        }
        works.write(0, 0, 0, 0, 0, 'n', 1, 0);
        works.step(100);
        Check.same("not by a lost way", works.faults(), 3);
    }

    private static void promise36Taken() {
        Sentence.promise(36, "Returns how many interrupts were taken.");
        MicrostoreWorks works = new MicrostoreWorks();
        works.write(0, 0, 0, 0, 0, 'e', 0, 0);
        Check.same("at first", works.taken(), 0);
        works.interrupt();
        Check.same("not when it is asked for", works.taken(), 0);
        works.step(1);
        Check.same("not while I is 0", works.taken(), 0);
        for (int times = 1; times <= 3; times++) {
            works.start(0, 0, true);
            works.interrupt();
            works.interrupt();
            works.step(2);
            Check.same("" + times, works.taken(), times);
        }
    }

    private static void promise37Found() {
        Sentence.promise(37, "Returns how often flags were found.");
        MicrostoreWorks works = new MicrostoreWorks();
        Check.same("at first", works.found(), 0);
        Bench.flags(works);
        Check.same("none were told", works.found(), 0);
        works.write(0, 0, 0, 0, 0, 'n', 0, 1);
        works.step(5);
        Check.same("told five times", works.found(), 0);
        Bench.flags(works);
        Bench.flags(works);
        Check.same("found once", works.found(), 1);
        works.step(1);
        works.reset();
        Bench.flags(works);
        Check.same("not to be found", works.found(), 1);
        works.write(0, 0, 0, 0, 0, 'e', 0, 1);
        works.step(3);
        Check.same("thrice at ends", works.found(), 4);
        works.write(0, 0, 0, 0, 0, 'o', 0, 1 + House.TEST_C);
        works.step(2);
        Check.same("twice by tests", works.found(), 6);
    }

    private static void promise38Cycles() {
        Sentence.promise(38, "Returns the cycles of all micro-steps.");
        MicrostoreWorks works = new MicrostoreWorks();
        works.setWait(9);
        works.step(1);
        Check.same("none", works.cycles(), 0);
        works.reset();
        works.write(0, 0, 0, 0, House.READ, 'n', 1, 0);
        works.write(1, 0, 0, 0, 0, 'e', 1, 0);
        works.step(1);
        Check.same("one that reads", works.cycles(), 10);
        works.reset();
        Check.same("also what is taken back", works.cycles(), 10);
        works.step(2);
        Check.same("and one that does not", works.cycles(), 21);
        works.setPage(0, false);
        works.step(5);
        Check.same("one that faults", works.cycles(), 31);
        works.setWait(0);
        works.setPage(0, true);
        works.step(1);
        Check.same("the wait as it was at each", works.cycles(), 32);
    }

    private static void promise39CyclesOf() {
        Sentence.promise(39, "Returns the cycles of all instructions that ended with an operation, by X as it was when"
                + " they ended and by S as it was when they began.");
        for (int i = 0; i < 32; i++) {
            MicrostoreWorks works = new MicrostoreWorks();
            works.start(0, i / 16, false);
            works.write(0, House.CONSTANT, 0, House.TO_X, 0, 'n', 1, 0);
            works.setConstant(0, 0x70);
            works.write(1, House.CONSTANT, 0, House.TO_X, 0, 's', 0, 0);
            works.setConstant(1, i % 16 * 16 + 15);
            works.step(2);
            for (int j = 0; j < 32; j++) {
                Check.same("of " + j, works.cyclesOf(j / 16, j % 16), j == i ? 2 : 0);
            }
            works.step(1);
            Check.same("what has begun", works.cyclesOf(i / 16, i % 16), 2);
            works.step(1);
            Check.same("of the other set", works.cyclesOf(1 - i / 16, i % 16), 2);
            works.step(2);
            Check.same("of two", works.cyclesOf(i / 16, i % 16), 4);
        }
        Check.same("at first", new MicrostoreWorks().cyclesOf(0, 0), 0);
    }

    private static void promise39TakenBack() {
        Sentence.promise(39, "The cycles of what was taken back count with the instruction that ends next.");
        MicrostoreWorks works = House.make();
        works.setWait(9);
        works.setCell(0, House.code(1, 0, 0));
        works.step(2);
        works.reset();
        Check.same("not when it is taken back", works.cyclesOf(0, 0) + works.cyclesOf(0, 1), 0);
        works.setCell(0, House.code(15, 0, 0));
        works.step(3);
        works.reset();
        works.setPage(0, false);
        works.run(1);
        works.setPage(0, true);
        works.write(0, House.P, 0, House.TO_A, House.READ, 'q', 0, 0);
        works.step(1);
        works.write(0, House.P, 0, House.TO_A, House.READ, 'n', 1, 0);
        works.setEntry(0, 15, -1);
        works.step(4);
        works.reset();
        works.setCell(0, House.code(5, 0, 0));
        works.run(1);
        Check.same("all with the one that ends", works.cyclesOf(0, 5), 11 + 12 + 10 + 10 + 12 + 13);
        Check.same("none with others", works.cyclesOf(0, 1) + works.cyclesOf(0, 15), 0);
        works.run(1);
        Check.same("once", works.cyclesOf(0, 0), 13);
        Check.same("all cycles", works.cycles(), 68 + 13);
    }

    private static void promise39Arguments() {
        Sentence.promise(39, "`set`: the set, 0 or 1");
        Refusal.range(Scene::begun, 0, 1, Refusal.INDEX, (it, value) -> it.cyclesOf(value, 15));
        Sentence.promise(39, "`operation`: the operation, 0 to 15");
        Refusal.range(Scene::begun, 0, 15, Refusal.INDEX, (it, value) -> it.cyclesOf(1, value));
        Sentence.promise(39, "Throws `IndexOutOfBoundsException` if there is no such set or no such operation");
        Refusal.check("set -1", Scene::begun, Refusal.INDEX, it -> it.cyclesOf(-1, 0));
        Refusal.check("set 2", Scene::begun, Refusal.INDEX, it -> it.cyclesOf(2, 15));
        Refusal.check("operation -1", Scene::begun, Refusal.INDEX, it -> it.cyclesOf(1, -1));
        Refusal.check("operation 16", Scene::begun, Refusal.INDEX, it -> it.cyclesOf(0, 16));
    }

    private static void promise40UsedShare() {
        Sentence.promise(40, "Throws `ArithmeticException` if there were no cycles");
        Refusal.check("at first", MicrostoreWorks::new, Refusal.ARITHMETIC, it -> it.usedShare());
        Refusal.check("lost", () -> {
            MicrostoreWorks works = new MicrostoreWorks();
            works.step(1);
            return works;
        }, Refusal.ARITHMETIC, it -> it.usedShare());
        Sentence.promise(40, "Returns the share of the cycles that count with instructions that ended.");
        MicrostoreWorks works = House.make();
        works.step(1);
        Check.same("none of one", works.usedShare(), 0.0);
        works.step(2);
        Check.same("none of three", works.usedShare(), 0.0);
        works.step(1);
        Check.same("all of four", works.usedShare(), 1.0);
        works.step(4);
        Check.same("all of eight", works.usedShare(), 1.0);
        works.step(1);
        Check.same("8 of 9", works.usedShare(), 8.0f / 9.0f);
        works.reset();
        Check.same("taken back", works.usedShare(), 8.0f / 9.0f);
        works.run(1);
        Check.same("it counts with the next one", works.usedShare(), 1.0);
        Sentence.promise(40, "Returns the sum of their cycles divided by the number of all cycles, both converted to"
                + " float.");
        MicrostoreWorks three = new MicrostoreWorks();
        three.write(0, 0, 0, 0, 0, 'e', 0, 0);
        three.run(1);
        three.write(0, 0, 0, 0, 0, 'n', 0, 0);
        for (int all = 2; all <= 100; all++) {
            three.step(1);
            Check.same("1 of " + all, three.usedShare(), 1.0f / (float) all);
        }
    }

    private static void promise41MeanCycles() {
        Sentence.promise(41, "Throws `ArithmeticException` if none ended");
        Refusal.check("at first", MicrostoreWorks::new, Refusal.ARITHMETIC, it -> it.meanCycles());
        Refusal.check("one has begun", () -> {
            MicrostoreWorks works = House.make();
            works.step(3);
            return works;
        }, Refusal.ARITHMETIC, it -> it.meanCycles());
        Sentence.promise(41, "Returns the mean number of cycles of the instructions that ended.");
        MicrostoreWorks works = House.make();
        works.step(4);
        Check.same("of one", works.meanCycles(), 4.0);
        works.step(3);
        Check.same("what has begun does not count", works.meanCycles(), 4.0);
        works.reset();
        works.run(1);
        Check.same("what was taken back counts", works.meanCycles(), 11.0 / 2.0);
        Sentence.promise(41, "Returns the sum of their cycles divided by their number, both converted to double.");
        works.setWait(9);
        works.run(1);
        Check.same("of three", works.meanCycles(), 24.0 / 3.0);
        works.setWait(0);
        works.setCell(3, House.code(6, 0, 0));
        for (int ended = 4; ended <= 20; ended++) {
            works.run(1);
            Check.same("of " + ended, works.meanCycles(), (double) (26 + 4 * (ended - 3)) / (double) ended);
        }
    }

    // ---- isSound

    private static void promise42Parts() {
        Sentence.promise(42, "P, A and K are places, registers, T, U, D and X are bytes;");
        for (int constant : new int[] {0, 63, 64, 255}) {
            for (int combine = 0; combine < 8; combine++) {
                MicrostoreWorks works = new MicrostoreWorks();
                works.write(0, House.CONSTANT, combine, 255 - 64, 0, 'n', 1, 0);
                works.setConstant(0, constant);
                works.write(1, House.FIRST, combine, 255 - 32, 0, 'e', 0, 1);
                works.start(63, 1, true);
                works.interrupt();
                for (int i = 0; i < 6; i++) {
                    works.step(1);
                    Check.same("P, A, K", (works.part('P') | works.part('A') | works.part('K')) >> 6, 0);
                    int all = works.part('T') | works.part('U') | works.part('D') | works.part('X');
                    Check.same("bytes", (all | works.register(0) | works.register(1)) >> 8, 0);
                    Check.same("sound", works.isSound(), true);
                }
            }
        }
    }

    private static void promise42Returns() {
        Sentence.promise(42, "the row of returns has at most 4;");
        MicrostoreWorks works = new MicrostoreWorks();
        works.write(0, 0, 0, 0, 0, 'c', 0, 0);
        for (int calls = 0; calls < 12; calls++) {
            Check.same("at most 4", works.returns() <= 4, true);
            Check.same("sound", works.isSound(), true);
            works.step(1);
        }
    }

    private static void promise42Cycles() {
        Sentence.promise(42, "the cycles of all instructions that ended are not more than all cycles;");
        MicrostoreWorks works = House.make();
        for (int i = 0; i < 30; i++) {
            works.setWait(i % 10);
            works.step(1 + i % 7);
            if (i % 5 == 0) {
                works.reset();
            }
            long used = 0;
            for (int of = 0; of < 8; of++) {
                used += works.cyclesOf(0, of);
            }
            Check.same("not more", used <= works.cycles(), true);
            Check.same("as the share tells", works.usedShare(), (float) used / (float) works.cycles());
            Check.same("sound", works.isSound(), true);
        }
    }

    private static void promise42Kept() {
        Sentence.promise(42, "and if no micro-step was done since the instruction began, all visible parts are what was"
                + " kept.");
        MicrostoreWorks works = Scene.idle();
        Check.same("not begun", works.isSound(), true);
        works.setRegister(3, 255);
        Check.same("a register is set", works.isSound(), true);
        works.start(63, 1, false);
        Check.same("P, S and I are set", works.isSound(), true);
        works.setCell(63, 255);
        Check.same("a cell is set", works.isSound(), true);
        MicrostoreWorks begun = Scene.begun();
        Check.same("begun, and changed", begun.isSound(), true);
        begun.reset();
        Check.same("taken back", begun.isSound(), true);
        begun.run(1);
        Check.same("behind an interrupt", begun.isSound(), true);
        Check.same("which was taken", begun.taken(), 1);
        MicrostoreWorks lost = new MicrostoreWorks();
        lost.write(0, 0, 6, House.TO_P, 0, 'n', 5, 1);
        lost.step(2);
        Check.same("lost", lost.isSound(), true);
    }

    private static void promise42All() {
        Sentence.promise(42, "Returns whether all of this is true.");
        Check.same("at first", new MicrostoreWorks().isSound(), true);
        MicrostoreWorks works = House.make();
        for (int i = 0; i < 64; i++) {
            works.setCell(i, 37 * i % 256);
        }
        for (int i = 0; i < 40; i++) {
            works.interrupt();
            works.setPage(i % 4, i % 3 != 0);
            works.step(1 + i % 9);
            Check.same("within a program", works.isSound(), true);
            works.setPage(i % 4, true);
        }
        MicrostoreWorks late = new MicrostoreWorks();
        late.write(0, 0, 0, 0, 0, 'n', 0, 1);
        late.step(1);
        late.isSound();
        Check.same("asking finds no flags", late.found(), 0);
    }
}
