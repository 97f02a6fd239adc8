/** The boundaries that the promises 10 to 19 name. */
final class BoundariesFromOutside {
    static void run() {
        promise10NoPartOfAnInstruction();
        promise10Arguments();
        promise10Returns();
        promise10Refuses();
        promise11Arguments();
        promise11Returns();
        promise11Refuses();
        promise12Arguments();
        promise12Returns();
        promise12Refuses();
        promise13AbsentOrPresent();
        promise13Arguments();
        promise13Returns();
        promise14Wait();
        promise15Vector();
        promise16Interrupt();
        promise17Reset();
        promise17Returns();
        promise18Steps();
        promise18Returns();
        promise18Number();
        promise19Ends();
        promise19Returns();
        promise19Number();
    }

    // ---- whether an instruction has begun

    private interface Setter {
        void set(MicrostoreWorks works);
    }

    /** An instruction of four micro-steps, that is taken back or ended in this way, or ended by the fourth one. */
    private static MicrostoreWorks behind(String what) {
        MicrostoreWorks works = House.make();
        works.start(9, 0, true);
        switch (what) {
            case "an end" -> works.step(4);
            case "an interrupt" -> {
                works.interrupt();
                works.step(4);
            }
            case "a reset" -> {
                works.step(3);
                works.reset();
            }
            case "a fault" -> {
                works.setPage(0, false);
                works.step(1);
            }
            case "a fault, and the page is there" -> {
                works.setPage(0, false);
                works.step(1);
                works.setPage(0, true);
            }
            case "giving way" -> {
                works.write(3, 0, 0, 0, 0, 'q', 0, 0);
                works.step(4);
            }
            case "a lost way" -> {
                works.setEntry(0, 0, -1);
                works.step(9);
            }
            case "a lost way and a reset" -> {
                works.setEntry(0, 0, -1);
                works.step(9);
                works.reset();
            }
            default -> {
            }
        }
        return works;
    }

    /** The call is refused behind each micro-step within an instruction, and only there. */
    private static void checkBegun(Setter setter) {
        String[] ends = {"nothing", "an end", "an interrupt", "a reset", "a fault", "a fault, and the page is there",
            "giving way", "a lost way", "a lost way and a reset"};
        for (String end : ends) {
            MicrostoreWorks works = behind(end);
            Check.same("not begun behind " + end, Check.nameOfThrown(() -> setter.set(works)), "nothing");
        }
        for (int steps = 1; steps < 4; steps++) {
            int done = steps;
            Refusal.check("begun by " + steps, () -> {
                MicrostoreWorks works = House.make();
                works.step(done);
                return works;
            }, Refusal.STATE, it -> setter.set(it));
        }
        Refusal.check("begun behind another one", () -> {
            MicrostoreWorks works = behind("an end");
            works.step(1);
            return works;
        }, Refusal.STATE, it -> setter.set(it));
        Refusal.check("begun though the way will be lost", () -> {
            MicrostoreWorks works = House.make();
            works.setEntry(0, 0, -1);
            works.step(3);
            return works;
        }, Refusal.STATE, it -> setter.set(it));
    }

    // ---- setCell

    private static void promise10NoPartOfAnInstruction() {
        Sentence.promise(10, "It is no part of an instruction, and is not taken back.");
        for (int cell : new int[] {0, 9, 63}) {
            MicrostoreWorks works = House.make();
            works.step(2);
            works.reset();
            works.setCell(cell, 255);
            works.reset();
            Check.same("by a reset at once", works.cell(cell), 255);
            works.step(2);
            works.reset();
            Check.same("by a reset behind micro-steps", works.cell(cell), 255);
            works.setPage(0, false);
            works.step(1);
            Check.same("by a fault", works.cell(cell), 255);
            works.setPage(0, true);
            works.write(0, 0, 0, 0, 0, 'q', 0, 0);
            works.step(1);
            Check.same("by giving way", works.cell(cell), 255);
            works.write(0, House.P, 5, House.TO_P, 0, 'e', 0, 0);
            works.start(20, 0, false);
            works.step(1);
            Check.same("it is nothing that an instruction did wrong", works.wrong(), 0);
        }
        MicrostoreWorks written = House.make();
        written.write(0, 0, 0, House.TO_A, House.WRITE, 'q', 0, 0);
        written.setCell(0, 5);
        written.step(1);
        Check.same("what the instruction wrote is", written.cell(0), 5);
        written.setCell(0, 6);
        written.step(1);
        Check.same("to what is set", written.cell(0), 6);
    }

    private static void promise10Arguments() {
        Sentence.promise(10, "`cell`: the cell, 0 to 63");
        Refusal.range(Scene::idle, 0, 63, Refusal.INDEX, (it, value) -> it.setCell(value, 0));
        Sentence.promise(10, "`value`: the byte");
        Refusal.range(Scene::idle, 0, 255, Refusal.ARGUMENT, (it, value) -> it.setCell(63, value));
    }

    private static void promise10Returns() {
        Sentence.promise(10, "Returns the byte before.");
        MicrostoreWorks works = new MicrostoreWorks();
        for (int cell : new int[] {0, 15, 16, 63}) {
            works.setPage(cell / 16, false);
            Check.same("at first", works.setCell(cell, 255), 0);
            Check.same("255", works.setCell(cell, 0), 255);
            Check.same("0", works.setCell(cell, 1), 0);
            Check.same("1", works.cell(cell), 1);
        }
    }

    private static void promise10Refuses() {
        Sentence.promise(10, "Throws `IndexOutOfBoundsException` if there is no such cell");
        Refusal.check("-1", Scene::idle, Refusal.INDEX, it -> it.setCell(-1, 0));
        Refusal.check("64", Scene::idle, Refusal.INDEX, it -> it.setCell(64, 0));
        Refusal.check("64, begun", Scene::begun, Refusal.INDEX, it -> it.setCell(64, 0));
        Sentence.promise(10, "Throws `IllegalArgumentException` if the value is out of range");
        Refusal.check("-1", Scene::idle, Refusal.ARGUMENT, it -> it.setCell(0, -1));
        Refusal.check("256", Scene::idle, Refusal.ARGUMENT, it -> it.setCell(0, 256));
        Refusal.check("256, begun", Scene::begun, Refusal.ARGUMENT, it -> it.setCell(0, 256));
        Sentence.promise(10, "Throws `IllegalStateException` if an instruction has begun: a micro-step was done since"
                + " it began");
        checkBegun(works -> works.setCell(63, 1));
    }

    // ---- setRegister

    private static void promise11Arguments() {
        Sentence.promise(11, "`register`: the register, 0 to 3");
        Refusal.range(Scene::idle, 0, 3, Refusal.INDEX, (it, value) -> it.setRegister(value, 0));
        Sentence.promise(11, "`value`: the byte");
        Refusal.range(Scene::idle, 0, 255, Refusal.ARGUMENT, (it, value) -> it.setRegister(3, value));
    }

    private static void promise11Returns() {
        Sentence.promise(11, "Returns the byte before.");
        MicrostoreWorks works = new MicrostoreWorks();
        for (int register = 0; register < 4; register++) {
            Check.same("at first", works.setRegister(register, 255), 0);
            Check.same("255", works.setRegister(register, 0), 255);
            Check.same("0", works.setRegister(register, register + 1), 0);
        }
        for (int register = 0; register < 4; register++) {
            Check.same("each its own", works.register(register), register + 1);
        }
    }

    private static void promise11Refuses() {
        Sentence.promise(11, "Throws `IndexOutOfBoundsException` if there is no such register");
        Refusal.check("-1", Scene::idle, Refusal.INDEX, it -> it.setRegister(-1, 0));
        Refusal.check("4", Scene::idle, Refusal.INDEX, it -> it.setRegister(4, 0));
        Refusal.check("4, begun", Scene::begun, Refusal.INDEX, it -> it.setRegister(4, 0));
        Sentence.promise(11, "Throws `IllegalArgumentException` if the value is out of range");
        Refusal.check("-1", Scene::idle, Refusal.ARGUMENT, it -> it.setRegister(0, -1));
        Refusal.check("256", Scene::idle, Refusal.ARGUMENT, it -> it.setRegister(0, 256));
        Refusal.check("256, begun", Scene::begun, Refusal.ARGUMENT, it -> it.setRegister(0, 256));
        Sentence.promise(11, "Throws `IllegalStateException` if an instruction has begun");
        checkBegun(works -> works.setRegister(3, 1));
    }

    // ---- start

    private static void promise12Arguments() {
        Sentence.promise(12, "`place`: the place P, 0 to 63");
        Refusal.range(Scene::idle, 0, 63, Refusal.ARGUMENT, (it, value) -> it.start(value, 1, true));
        Sentence.promise(12, "`set`: the set S, 0 or 1");
        Refusal.range(Scene::idle, 0, 1, Refusal.ARGUMENT, (it, value) -> it.start(0, value, true));
        Sentence.promise(12, "`isOpen`: whether I is 1");
        MicrostoreWorks works = new MicrostoreWorks();
        for (int i = 0; i < 6; i++) {
            works.start(0, 0, i % 2 == 0);
            Check.same("I", works.part('I'), 1 - i % 2);
        }
    }

    private static void promise12Returns() {
        Sentence.promise(12, "Returns the place before.");
        MicrostoreWorks works = new MicrostoreWorks();
        Check.same("at first", works.start(63, 1, true), 0);
        Check.same("63", works.start(0, 0, false), 63);
        Check.same("0", works.start(62, 1, false), 0);
        works.write(0, House.P, 5, House.TO_P, 0, 'e', 0, 0);
        works.step(1);
        Check.same("to which an instruction has led", works.start(0, 1, false), 63);
    }

    private static void promise12Refuses() {
        Sentence.promise(12, "Throws `IllegalArgumentException` if a number is out of range");
        Refusal.check("place -1", Scene::idle, Refusal.ARGUMENT, it -> it.start(-1, 0, false));
        Refusal.check("place 64", Scene::idle, Refusal.ARGUMENT, it -> it.start(64, 0, false));
        Refusal.check("set -1", Scene::idle, Refusal.ARGUMENT, it -> it.start(0, -1, false));
        Refusal.check("set 2", Scene::idle, Refusal.ARGUMENT, it -> it.start(0, 2, false));
        Refusal.check("set 2, begun", Scene::begun, Refusal.ARGUMENT, it -> it.start(0, 2, false));
        Sentence.promise(12, "Throws `IllegalStateException` if an instruction has begun");
        checkBegun(works -> works.start(63, 1, true));
    }

    // ---- setPage

    private static void promise13AbsentOrPresent() {
        Sentence.promise(13, "Makes a page absent or present.");
        for (int page = 0; page < 4; page++) {
            MicrostoreWorks works = new MicrostoreWorks();
            works.write(0, House.CONSTANT, 0, House.TO_A, House.READ, 'n', 0, 0);
            works.setConstant(0, 16 * page + 15);
            works.setPage(page, false);
            works.setPage(page, false);
            works.step(1);
            Check.same("absent", works.faults(), 1);
            works.setPage(page, true);
            works.step(1);
            Check.same("present by one call", works.faults(), 1);
            works.setPage(page, true);
            works.setPage(page, false);
            works.step(1);
            Check.same("absent within an instruction", works.faults(), 2);
        }
        Sentence.promise(13, "`isPresent`: whether it is present from now on");
        for (int page = 0; page < 4; page++) {
            MicrostoreWorks works = new MicrostoreWorks();
            for (int i = 0; i < 4; i++) {
                Check.same("absent from now on", works.setPage(page, false), i == 0);
            }
            for (int i = 0; i < 4; i++) {
                Check.same("present from now on", works.setPage(page, true), i != 0);
            }
        }
    }

    private static void promise13Arguments() {
        Sentence.promise(13, "`page`: the page, 0 to 3");
        Refusal.range(Scene::begun, 0, 3, Refusal.INDEX, (it, value) -> it.setPage(value, false));
        Sentence.promise(13, "Throws `IndexOutOfBoundsException` if there is no such page");
        Refusal.check("-1", Scene::begun, Refusal.INDEX, it -> it.setPage(-1, true));
        Refusal.check("4", Scene::begun, Refusal.INDEX, it -> it.setPage(4, true));
        Refusal.check("4", Scene::begun, Refusal.INDEX, it -> it.setPage(4, false));
    }

    private static void promise13Returns() {
        Sentence.promise(13, "Returns whether it was present.");
        MicrostoreWorks works = new MicrostoreWorks();
        for (int page = 0; page < 4; page++) {
            Check.same("at first", works.setPage(page, false), true);
        }
        for (int page = 0; page < 4; page++) {
            Check.same("absent", works.setPage(page, page % 2 == 0), false);
        }
        for (int page = 0; page < 4; page++) {
            Check.same("each its own", works.setPage(page, true), page % 2 == 0);
        }
    }

    // ---- setWait, setVector, interrupt

    private static void promise14Wait() {
        Sentence.promise(14, "`cycles`: the wait, 0 to 9");
        Refusal.range(Scene::begun, 0, 9, Refusal.ARGUMENT, (it, value) -> it.setWait(value));
        for (int wait = 0; wait < 10; wait++) {
            MicrostoreWorks works = new MicrostoreWorks();
            works.write(0, 0, 0, 0, House.WRITE, 'n', 0, 0);
            works.setWait(9 - wait);
            works.setWait(wait);
            works.step(2);
            Check.same("the cycles with " + wait, works.cycles(), 2 + 2 * wait);
        }
        Sentence.promise(14, "Returns the wait before.");
        MicrostoreWorks works = new MicrostoreWorks();
        Check.same("at first", works.setWait(9), 0);
        Check.same("9", works.setWait(0), 9);
        Check.same("0", works.setWait(1), 0);
        Sentence.promise(14, "Throws `IllegalArgumentException` if it is out of range");
        Refusal.check("-1", Scene::begun, Refusal.ARGUMENT, it -> it.setWait(-1));
        Refusal.check("10", Scene::begun, Refusal.ARGUMENT, it -> it.setWait(10));
    }

    private static void promise15Vector() {
        Sentence.promise(15, "`place`: the vector, 0 to 63");
        Refusal.range(Scene::begun, 0, 63, Refusal.ARGUMENT, (it, value) -> it.setVector(value));
        for (int vector : new int[] {0, 1, 47, 48, 62, 63}) {
            MicrostoreWorks works = new MicrostoreWorks();
            works.setVector(63 - vector);
            works.setVector(vector);
            works.write(0, 0, 0, 0, 0, 'e', 0, 0);
            works.start(20, 0, true);
            works.interrupt();
            works.step(1);
            Check.same("P by " + vector, works.part('P'), vector);
        }
        Sentence.promise(15, "Returns the vector before.");
        MicrostoreWorks works = new MicrostoreWorks();
        Check.same("at first", works.setVector(63), 48);
        Check.same("63", works.setVector(0), 63);
        Check.same("0", works.setVector(1), 0);
        Sentence.promise(15, "Throws `IllegalArgumentException` if it is out of range");
        Refusal.check("-1", Scene::begun, Refusal.ARGUMENT, it -> it.setVector(-1));
        Refusal.check("64", Scene::begun, Refusal.ARGUMENT, it -> it.setVector(64));
    }

    private static void promise16Interrupt() {
        Sentence.promise(16, "Asks for an interrupt, which waits then.");
        MicrostoreWorks works = new MicrostoreWorks();
        works.write(0, 0, 0, 0, 0, 'e', 0, 0);
        works.interrupt();
        works.step(100);
        Check.same("it waits while I is 0", works.taken(), 0);
        works.start(0, 0, true);
        Check.same("it is not taken by a call", works.taken(), 0);
        works.step(1);
        Check.same("taken", works.taken(), 1);
        works.start(0, 0, true);
        works.step(1);
        Check.same("once", works.taken(), 1);
        Sentence.promise(16, "Returns whether one waited ahead of the call.");
        Check.same("none is left", works.interrupt(), false);
        Check.same("one waits", works.interrupt(), true);
        Check.same("one still waits", works.interrupt(), true);
        works.reset();
        Check.same("also behind a reset", works.interrupt(), true);
        works.start(0, 0, true);
        works.step(1);
        Check.same("it was taken", works.interrupt(), false);
        Check.same("at first", new MicrostoreWorks().interrupt(), false);
    }

    // ---- reset

    private static void promise17Reset() {
        Sentence.promise(17, "the instruction is taken back, and the processor runs if it was lost.");
        MicrostoreWorks works = new MicrostoreWorks();
        Bench.put(works, 0, 9, House.TO_P + House.TO_FIRST + House.TO_A + House.TO_D);
        works.write(1, 0, 6, 0, House.WRITE, 'n', 2, 1);
        works.write(2, 0, 0, 0, 0, 'c', 70, 0);
        works.step(3);
        works.reset();
        Check.same("P", works.part('P'), 0);
        Check.same("register", works.register(0), 0);
        Check.same("cell", works.cell(9), 0);
        Check.same("returns", works.returns(), 0);
        Check.same("flags", Bench.flags(works) + works.found(), 0);
        Check.same("runs", works.state(), 'r');
        Check.same("lost", works.step(4), 3);
        Check.same("lost", works.state(), 'l');
        works.reset();
        Check.same("runs as it was lost", works.state(), 'r');
        Check.same("and goes on", works.step(1), 1);
        works.reset();
        works.setPage(0, false);
        Check.same("the second one faults", works.step(9), 2);
        works.reset();
        Check.same("it was not lost, and waits", works.state(), 'w');
        Check.same("and goes on waiting", works.step(1), 0);
    }

    private static void promise17Returns() {
        Sentence.promise(17, "Returns the address that was the next one.");
        MicrostoreWorks works = new MicrostoreWorks();
        Check.same("at first", works.reset(), 0);
        for (int number = 0; number < 80; number++) {
            works.write(0, 0, 0, 0, 0, 'n', number, 0);
            works.step(1);
            Check.same("" + number, works.reset(), number);
            Check.same("and now", works.next(), 0);
        }
        works.write(0, 0, 0, 0, 0, 'd', 0, 0);
        works.step(1);
        Check.same("none", works.reset(), -1);
        works.write(0, 0, 0, 0, 0, 'n', 79, 0);
        works.write(1, 0, 0, 0, 0, 'c', 2, 0);
        works.write(2, 0, 0, 0, 0, 'r', 0, 0);
        works.patch(79, 1, 2);
        works.step(3);
        Check.same("80", works.reset(), 80);
        works.step(4);
        Check.same("lost", works.state(), 'l');
        Check.same("taken back already", works.reset(), 0);
    }

    // ---- step and run

    /** The next instruction is of so many micro-steps, 2 to 257, as T counts to 256; two were done ahead of it. */
    private static MicrostoreWorks counting(int steps) {
        MicrostoreWorks works = new MicrostoreWorks();
        Bench.put(works, 0, 257 - steps & 255, House.TO_T);
        works.write(1, 0, 0, 0, 0, 'e', 0, 0);
        works.step(2);
        works.write(0, House.T, 5, House.TO_T, 0, 'o', 0, House.FLAGS + House.TEST_C);
        works.write(2, 0, 0, 0, 0, 'e', 0, 0);
        return works;
    }

    private static void promise18Steps() {
        Sentence.promise(18, "Lets micro-steps be done, until the processor waits or is lost.");
        MicrostoreWorks works = new MicrostoreWorks();
        works.write(0, 0, 0, 0, 0, 'n', 1, 0);
        works.write(1, 0, 0, 0, 0, 'n', 2, 0);
        Check.same("to the lost way", works.step(2), 2);
        Check.same("runs", works.state(), 'r');
        works.reset();
        Check.same("lost", works.step(3), 2);
        Check.same("lost", works.state(), 'l');
        Check.same("none when lost", works.step(1), 0);
        works.reset();
        works.write(2, 0, 0, 0, House.READ, 'n', 0, 0);
        Check.same("over all three", works.step(100), 100);
        works.reset();
        works.setPage(0, false);
        Check.same("the one that faults is done", works.step(4), 3);
        Check.same("waits", works.state(), 'w');
        Check.same("none when it waits", works.step(1), 0);
        works.setPage(0, true);
        Check.same("and goes on", works.step(4), 4);
        MicrostoreWorks house = House.make();
        Check.same("it goes on over ends", house.step(100), 100);
        Check.same("ends", house.ended(), 25);
    }

    private static void promise18Returns() {
        Sentence.promise(18, "Returns the number of micro-steps that were done.");
        for (int words = 0; words <= 63; words++) {
            MicrostoreWorks works = new MicrostoreWorks();
            for (int address = 0; address < words; address++) {
                works.write(address, 0, 0, 0, 0, 'n', address + 1, 0);
            }
            Check.same("with " + words, works.step(60), Math.min(words, 60));
            Check.same("cycles", works.cycles(), Math.min(words, 60));
            Check.same("state", works.state(), words < 60 ? 'l' : 'r');
        }
    }

    private static void promise18Number() {
        Sentence.promise(18, "`steps`: the number of micro-steps, 1 to 100");
        Refusal.range(Scene::begun, 1, 100, Refusal.ARGUMENT, (it, value) -> it.step(value));
        for (int steps : new int[] {1, 2, 99, 100}) {
            MicrostoreWorks works = House.make();
            Check.same("" + steps, works.step(steps), steps);
            Check.same("cycles", works.cycles(), steps);
        }
        Sentence.promise(18, "Throws `IllegalArgumentException` if the number is out of range");
        Refusal.check("0", Scene::begun, Refusal.ARGUMENT, it -> it.step(0));
        Refusal.check("101", Scene::begun, Refusal.ARGUMENT, it -> it.step(101));
        Refusal.check("0 when lost", MicrostoreWorks::new, Refusal.ARGUMENT, it -> it.step(0));
    }

    private static void promise19Ends() {
        Sentence.promise(19, "Lets micro-steps be done until instructions have ended, until the processor waits or is"
                + " lost, or 200 were done.");
        MicrostoreWorks works = counting(200);
        Check.same("ahead of it", works.cycles(), 2);
        Check.same("one of 200 ends", works.run(1), 1);
        Check.same("200", works.cycles(), 202);
        works = counting(201);
        Check.same("one of 201 does not", works.run(1), 0);
        Check.same("200", works.cycles(), 202);
        Check.same("it ends by one more", works.run(1), 1);
        Check.same("1", works.cycles(), 203);
        works = counting(5);
        works.run(1);
        works.write(0, 0, 0, 0, 0, 'n', 1, 0);
        works.write(1, 0, 0, 0, 0, 'e', 0, 0);
        for (int instructions = 1; instructions <= 20; instructions++) {
            long before = works.cycles();
            Check.same("" + instructions, works.run(instructions), instructions);
            Check.same("no micro-step more", works.cycles(), before + 2 * instructions);
        }
        checkRunStops();
    }

    private static void checkRunStops() {
        MicrostoreWorks ten = tenSteps();
        Check.same("20 of 10", ten.run(20), 20);
        Check.same("200", ten.cycles(), 200);
        Check.same("none has begun", ten.next(), 0);
        ten.step(1);
        Check.same("19 and what has begun", ten.run(20), 20);
        Check.same("199 more", ten.cycles(), 400);
        ten.write(9, 0, 0, 0, 0, 'n', 10, 0);
        ten.write(10, 0, 0, 0, 0, 'e', 0, 0);
        Check.same("18 of 11, and two micro-steps", ten.run(20), 18);
        Check.same("200 more", ten.cycles(), 600);
        Check.same("the next one has begun", ten.next(), 2);
        MicrostoreWorks waits = House.make();
        waits.start(14, 0, false);
        waits.setPage(1, false);
        Check.same("two, until it waits", waits.run(20), 2);
        Check.same("waits", waits.state(), 'w');
        MicrostoreWorks lost = House.make();
        lost.setCell(3, 0x10);
        lost.setEntry(0, 1, -1);
        Check.same("three, until it is lost", lost.run(20), 3);
        Check.same("lost", lost.state(), 'l');
        MicrostoreWorks gives = new MicrostoreWorks();
        gives.write(0, 0, 0, 0, 0, 'q', 0, 0);
        Check.same("giving way is no end", gives.run(1), 0);
        Check.same("200", gives.cycles(), 200);
    }

    private static MicrostoreWorks tenSteps() {
        MicrostoreWorks works = new MicrostoreWorks();
        for (int address = 0; address < 10; address++) {
            works.write(address, 0, 0, 0, 0, address == 9 ? 'e' : 'n', address + 1, 0);
        }
        return works;
    }

    private static void promise19Returns() {
        Sentence.promise(19, "Returns the number of instructions that ended.");
        MicrostoreWorks works = House.make();
        works.run(5);
        Check.same("of this call alone", works.run(3), 3);
        Check.same("of all", works.ended(), 8);
        works.setPage(0, false);
        Check.same("none", works.run(20), 0);
        Check.same("none while it waits", works.run(20), 0);
        works.setPage(0, true);
        works.step(3);
        Check.same("what had begun", works.run(1), 1);
        Check.same("none of a new one", new MicrostoreWorks().run(20), 0);
    }

    private static void promise19Number() {
        Sentence.promise(19, "`instructions`: the number of instructions, 1 to 20");
        Refusal.range(Scene::begun, 1, 20, Refusal.ARGUMENT, (it, value) -> it.run(value));
        Check.same("20", House.make().run(20), 20);
        Sentence.promise(19, "Throws `IllegalArgumentException` if the number is out of range");
        Refusal.check("0", Scene::begun, Refusal.ARGUMENT, it -> it.run(0));
        Refusal.check("21", Scene::begun, Refusal.ARGUMENT, it -> it.run(21));
        Refusal.check("0 when lost", MicrostoreWorks::new, Refusal.ARGUMENT, it -> it.run(0));
    }
}
