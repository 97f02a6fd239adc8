/** Promises 10 to 19: what calls set from outside, and how micro-steps and instructions go on. */
public final class ProgramsTest {
    private static final Class<IndexOutOfBoundsException> INDEX = IndexOutOfBoundsException.class;
    private static final Class<IllegalArgumentException> ARGUMENT = IllegalArgumentException.class;
    private static final Class<IllegalStateException> STATE = IllegalStateException.class;

    public static void main(String[] args) {
        promise10SetCell();
        promise10SetCellRefuses();
        promise11SetRegister();
        promise11SetRegisterRefuses();
        promise12Start();
        promise12StartRefuses();
        promise13SetPage();
        promise13SetPageRefuses();
        promise13FaultsOfWriting();
        promise14SetWait();
        promise14SetWaitRefuses();
        promise15SetVector();
        promise15SetVectorRefuses();
        promise16Interrupt();
        promise16GivingWay();
        promise16TestOfAnInterrupt();
        promise17Reset();
        promise18Step();
        promise18StepRefuses();
        promise19Run();
        promise19RunRefuses();
        Check.finish();
    }

    /** Two words that write 9 into the cell 20, change P and a register and tell flags, and go on at 2. */
    private static MicrostoreWorks writer() {
        MicrostoreWorks works = new MicrostoreWorks();
        works.write(0, 64, 0, 4, 0, 'n', 1, 0);
        works.setConstant(0, 20);
        works.write(1, 64, 0, 8 + 16 + 32, 2, 'n', 2, 1);
        works.setConstant(1, 9);
        return works;
    }

    private static void promise10SetCell() {
        MicrostoreWorks works = House.make();
        Check.same("before", works.setCell(0, 255), 0);
        Check.same("again", works.setCell(0, 80), 255);
        Check.same("last", works.setCell(63, 1), 0);
        works.setPage(1, false);
        Check.same("in an absent page", works.setCell(16, 7), 0);
        Check.same("held", works.cell(16), 7);
        works.step(1);
        works.reset();
        Check.same("not begun again", works.setCell(0, 81), 80);
        works.step(2);
        works.reset();
        Check.same("it is not taken back", works.cell(0), 81);
        works.run(1);
        Check.same("it is what the instruction is judged by", works.wrong(), 0);
    }

    private static void promise10SetCellRefuses() {
        Refusal.check("-1", Scene::idle, INDEX, works -> works.setCell(-1, 256));
        Refusal.check("64", Scene::idle, INDEX, works -> works.setCell(64, 0));
        Refusal.check("value -1", Scene::idle, ARGUMENT, works -> works.setCell(0, -1));
        Refusal.check("value 256", Scene::idle, ARGUMENT, works -> works.setCell(0, 256));
        Refusal.check("begun", Scene::begun, STATE, works -> works.setCell(0, 1));
        Refusal.check("index ahead of begun", Scene::begun, INDEX, works -> works.setCell(64, 1));
        Refusal.check("value ahead of begun", Scene::begun, ARGUMENT, works -> works.setCell(0, 256));
    }

    private static void promise11SetRegister() {
        MicrostoreWorks works = House.make();
        House.load(works, 0, House.code(5, 3, 0));
        Check.same("before", works.setRegister(3, 255), 0);
        Check.same("again", works.setRegister(3, 8), 255);
        Check.same("first", works.setRegister(0, 1), 0);
        works.step(3);
        works.reset();
        Check.same("what was set ahead of it is kept", works.register(3), 8);
        Check.same("the definition begins with it", works.defined('3'), 9);
        works.run(1);
        Check.same("done", works.register(3), 9);
        Check.same("right", works.wrong(), 0);
    }

    private static void promise11SetRegisterRefuses() {
        Refusal.check("-1", Scene::idle, INDEX, works -> works.setRegister(-1, 256));
        Refusal.check("4", Scene::idle, INDEX, works -> works.setRegister(4, 0));
        Refusal.check("value -1", Scene::idle, ARGUMENT, works -> works.setRegister(0, -1));
        Refusal.check("value 256", Scene::idle, ARGUMENT, works -> works.setRegister(3, 256));
        Refusal.check("begun", Scene::begun, STATE, works -> works.setRegister(0, 1));
        Refusal.check("index ahead of begun", Scene::begun, INDEX, works -> works.setRegister(4, 1));
        Refusal.check("value ahead of begun", Scene::begun, ARGUMENT, works -> works.setRegister(0, 256));
    }

    private static void promise12Start() {
        MicrostoreWorks works = House.make();
        Check.same("before", works.start(63, 1, true), 0);
        Check.same("P", works.part('P'), 63);
        Check.same("S", works.part('S'), 1);
        Check.same("I", works.part('I'), 1);
        Check.same("K", works.part('K'), 0);
        Check.same("kept", works.isSound(), true);
        Check.same("again", works.start(5, 0, false), 63);
        Check.same("S again", works.part('S'), 0);
        Check.same("I again", works.part('I'), 0);
        works.step(3);
        works.reset();
        Check.same("kept as set", works.part('P'), 5);
        works.run(1);
        Check.same("it begins there", works.part('P'), 6);
        Check.same("right", works.wrong(), 0);
    }

    private static void promise12StartRefuses() {
        Refusal.check("place -1", Scene::idle, ARGUMENT, works -> works.start(-1, 0, true));
        Refusal.check("place 64", Scene::idle, ARGUMENT, works -> works.start(64, 0, true));
        Refusal.check("set -1", Scene::idle, ARGUMENT, works -> works.start(0, -1, true));
        Refusal.check("set 2", Scene::idle, ARGUMENT, works -> works.start(0, 2, true));
        Refusal.check("begun", Scene::begun, STATE, works -> works.start(0, 0, false));
        Refusal.check("number ahead of begun", Scene::begun, ARGUMENT, works -> works.start(64, 0, false));
    }

    private static void promise13SetPage() {
        MicrostoreWorks works = House.make();
        Check.same("absent", works.setPage(2, false), true);
        Check.same("still absent", works.setPage(2, false), false);
        Check.same("present", works.setPage(2, true), false);
        Check.same("still present", works.setPage(2, true), true);
        for (int page = 0; page < 4; page++) {
            checkPage(page);
        }
        works.start(15, 0, false);
        works.setPage(1, false);
        Check.same("the last cell of the page 0 is there", works.run(1), 1);
        Check.same("the first of the page 1 is not", works.run(1), 0);
        Check.same("it waits", works.state(), 'w');
        works.reset();
        Check.same("a reset does not end the wait", works.state(), 'w');
        works.setPage(1, true);
        works.setPage(1, false);
        Check.same("it runs since the page was made present", works.state(), 'r');
        Check.same("and faults again", works.step(5), 1);
        Check.same("faults", works.faults(), 2);
    }

    private static void promise13SetPageRefuses() {
        Refusal.check("-1", Scene::idle, INDEX, works -> works.setPage(-1, false));
        Refusal.check("4", Scene::idle, INDEX, works -> works.setPage(4, true));
    }

    private static void checkPage(int page) {
        MicrostoreWorks works = House.make();
        works.setWait(3);
        works.start(16 * page, 0, true);
        works.setCell(16 * page, House.code(5, 1, 0));
        works.setPage(page, false);
        Check.same("the micro-step that faults is done", works.step(9), 1);
        Check.same("waits", works.state(), 'w');
        Check.same("with its cycles", works.cycles(), 4);
        Check.same("with its bus", works.bus(), 16 * page);
        Check.same("with its drivers", works.drivers(), House.P);
        Check.same("A stays", works.part('A'), 16 * page);
        Check.same("D is not read", works.part('D'), 0);
        Check.same("from the beginning", works.next(), 0);
        Check.same("faults", works.faults(), 1);
        Check.same("nothing while it waits", works.step(5), 0);
        Check.same("nor so", works.run(5), 0);
        works.setPage((page + 1) % 4, false);
        works.setPage((page + 1) % 4, true);
        Check.same("another page is not it", works.state(), 'w');
        Check.same("not begun", works.setRegister(1, 6), 0);
        works.setPage(page, true);
        Check.same("runs", works.state(), 'r');
        Check.same("one instruction", works.run(1), 1);
        Check.same("done", works.register(1), 7);
        Check.same("right", works.wrong(), 0);
        Check.same("with the cycles of what was taken back", works.cyclesOf(0, 5), 4 + 7);
    }

    private static void promise13FaultsOfWriting() {
        MicrostoreWorks works = writer();
        works.write(2, 64, 0, 1 + 4, 2, 's', 0, 0);
        works.setConstant(2, 47);
        works.setPage(2, false);
        Check.same("the third faults", works.step(9), 3);
        Check.same("waits", works.state(), 'w');
        Check.same("nothing is written", works.cell(47), 0);
        Check.same("what was written is taken back", works.cell(20), 0);
        Check.same("P is taken back", works.part('P'), 0);
        Check.same("the register is taken back", works.register(0), 0);
        Check.same("the order is not looked at", works.part('S'), 0);
        Check.same("no flags are to be found", works.part('C') + works.found(), 0);
        Check.same("T has heard and stays", works.part('T'), 47);
        Check.same("A has heard and stays", works.part('A'), 47);
        Check.same("D stays", works.part('D'), 9);
        Check.same("none ended", works.ended(), 0);
        Check.same("not begun", works.setCell(20, 1), 0);
        works.setPage(2, true);
        Check.same("it ends now", works.run(1), 1);
        Check.same("written", works.cell(47), 9);
        Check.same("written, too", works.cell(20), 9);
        Check.same("S", works.part('S'), 1);
    }

    private static void promise14SetWait() {
        MicrostoreWorks works = House.make();
        Check.same("before", works.setWait(9), 0);
        Check.same("again", works.setWait(2), 9);
        House.load(works, 0, House.code(8, 0, 1));
        works.step(1);
        Check.same("a word that reads", works.cycles(), 3);
        works.step(1);
        Check.same("a word that does neither", works.cycles(), 4);
        works.setWait(5);
        works.run(1);
        Check.same("a word that writes", works.cycles(), 4 + 1 + 1 + 6);
    }

    private static void promise14SetWaitRefuses() {
        Refusal.check("-1", Scene::idle, ARGUMENT, works -> works.setWait(-1));
        Refusal.check("10", Scene::idle, ARGUMENT, works -> works.setWait(10));
    }

    private static void promise15SetVector() {
        MicrostoreWorks works = House.make();
        Check.same("before", works.setVector(63), 48);
        Check.same("again", works.setVector(0), 63);
        Check.same("again", works.setVector(7), 0);
        works.start(20, 0, true);
        works.interrupt();
        works.run(1);
        Check.same("it leads there", works.part('P'), 7);
    }

    private static void promise15SetVectorRefuses() {
        Refusal.check("-1", Scene::idle, ARGUMENT, works -> works.setVector(-1));
        Refusal.check("64", Scene::idle, ARGUMENT, works -> works.setVector(64));
    }

    private static void promise16Interrupt() {
        MicrostoreWorks works = House.make();
        House.load(works, 20, House.code(0, 0, 0), House.code(0, 0, 0), 0xE0);
        House.load(works, 48, House.code(14, 0, 0));
        works.start(20, 0, true);
        Check.same("none waited", works.interrupt(), false);
        Check.same("one waits", works.interrupt(), true);
        Check.same("none is taken within an instruction", works.step(3), 3);
        Check.same("none taken", works.taken(), 0);
        works.step(1);
        Check.same("taken at the end", works.taken(), 1);
        Check.same("K", works.part('K'), 21);
        Check.same("P", works.part('P'), 48);
        Check.same("S", works.part('S'), 0);
        Check.same("I", works.part('I'), 0);
        Check.same("kept", works.isSound(), true);
        Check.same("the instruction was right", works.wrong(), 0);
        Check.same("none waits any more", works.interrupt(), false);
        Check.same("back again", works.run(1), 1);
        Check.same("P and then taken again", works.part('P'), 48);
        Check.same("K is where it was", works.part('K'), 21);
        Check.same("twice", works.taken(), 2);
        works.run(1);
        Check.same("I is 1 again", works.part('I'), 1);
        works.start(21, 0, false);
        works.interrupt();
        works.run(1);
        Check.same("not taken with I 0", works.taken(), 2);
        Check.same("it still waits", works.interrupt(), true);
        works.start(30, 0, true);
        Check.same("not taken when I is set", works.taken(), 2);
        works.setCell(30, 0xD0);
        works.run(1);
        Check.same("taken when one ends", works.taken(), 3);
        Check.same("S becomes 0", works.part('S'), 0);
        Check.same("K again", works.part('K'), 31);
        Check.same("right", works.wrong(), 0);
        works.run(1);
        Check.same("S does not come back", works.part('S'), 0);
    }

    private static void promise16GivingWay() {
        MicrostoreWorks works = writer();
        works.write(2, 64, 0, 1 + 2 + 128, 0, 'q', 50, 0);
        works.setConstant(2, 0x5A);
        works.start(11, 1, true);
        works.setRegister(2, 4);
        works.step(2);
        Check.same("written", works.cell(20), 9);
        Check.same("P", works.part('P'), 9);
        Check.same("a register", works.register(0), 9);
        works.step(1);
        Check.same("taken back: the cell", works.cell(20), 0);
        Check.same("P again", works.part('P'), 11);
        Check.same("the register", works.register(0), 0);
        Check.same("begun again", works.next(), 0);
        Check.same("not ended", works.ended(), 0);
        Check.same("T stays", works.part('T'), 0x5A);
        Check.same("U stays", works.part('U'), 0x5A);
        Check.same("A stays", works.part('A'), 20);
        Check.same("D stays", works.part('D'), 9);
        Check.same("X stays", works.part('X'), 0x5A);
        Check.same("no flags are to be found", works.part('Z') + works.found(), 0);
        works.interrupt();
        works.step(2);
        Check.same("not yet", works.taken(), 0);
        works.step(1);
        Check.same("taken where it gives way", works.taken(), 1);
        Check.same("K is where the instruction began", works.part('K'), 11);
        Check.same("P is the vector", works.part('P'), 48);
        Check.same("S", works.part('S'), 0);
        Check.same("I", works.part('I'), 0);
        Check.same("a register set ahead of it", works.register(2), 4);
        Check.same("the definition is of the next one", works.defined('P'), 49);
        works.interrupt();
        works.step(3);
        Check.same("not with I 0", works.taken(), 1);
        works.reset();
        Check.same("what the interrupt did is not taken back", works.part('P'), 48);
    }

    private static void promise16TestOfAnInterrupt() {
        MicrostoreWorks works = new MicrostoreWorks();
        works.write(0, 0, 0, 0, 0, 'o', 8, House.TEST_INTERRUPT);
        works.step(1);
        Check.same("none waits, I is 0", works.next(), 8);
        works.reset();
        works.interrupt();
        works.step(1);
        Check.same("one waits, I is 0", works.next(), 8);
        works.reset();
        works.start(0, 0, true);
        works.step(1);
        Check.same("one waits, I is 1", works.next(), 12);
        works.reset();
        works.write(0, 0, 0, 0, 0, 'o', 8, House.TEST_Z + House.TEST_C);
        works.step(1);
        Check.same("not tested", works.next(), 8);
        MicrostoreWorks none = new MicrostoreWorks();
        none.write(0, 0, 0, 0, 0, 'o', 8, House.TEST_INTERRUPT);
        none.start(0, 0, true);
        none.step(1);
        Check.same("none waits, I is 1", none.next(), 8);
    }

    private static void promise17Reset() {
        MicrostoreWorks works = writer();
        Check.same("nothing to take back", works.reset(), 0);
        works.write(2, 0, 0, 0, 0, 'c', 79, 0);
        works.step(3);
        Check.same("a return", works.returns(), 1);
        Check.same("the next one", works.reset(), 79);
        Check.same("the next one now", works.next(), 0);
        Check.same("no return", works.returns(), 0);
        Check.same("the cell", works.cell(20), 0);
        Check.same("the place", works.part('P'), 0);
        Check.same("the register", works.register(0), 0);
        Check.same("A stays", works.part('A'), 20);
        Check.same("lost", works.step(5), 3);
        Check.same("lost", works.state(), 'l');
        Check.same("nothing when lost", works.step(5), 0);
        Check.same("nothing when lost", works.run(5), 0);
        works.patch(79, 0, 0);
        Check.same("lost until it is reset", works.state(), 'l');
        works.reset();
        Check.same("runs", works.state(), 'r');
        works.write(2, 0, 0, 0, 0, 'r', 0, 0);
        works.step(3);
        Check.same("no next address", works.reset(), -1);
        works.write(2, 0, 0, 0, 0, 'p', 0, 0);
        works.step(3);
        Check.same("exchanged", works.part('E'), 1);
        works.reset();
        Check.same("E is 0", works.part('E'), 0);
    }

    private static void promise18Step() {
        MicrostoreWorks works = new MicrostoreWorks();
        works.write(0, 0, 0, 0, 0, 'n', 1, 0);
        works.write(1, 0, 0, 0, 0, 'n', 0, 0);
        Check.same("one", works.step(1), 1);
        Check.same("next", works.next(), 1);
        Check.same("a hundred", works.step(100), 100);
        Check.same("all were done", works.cycles(), 101);
        works.write(1, 0, 0, 0, 0, 'n', 2, 0);
        Check.same("exactly to the lost way", works.step(1), 1);
        Check.same("not lost yet", works.state(), 'r');
        Check.same("none is done", works.step(1), 0);
        Check.same("lost", works.state(), 'l');
        works.reset();
        Check.same("two until it is lost", works.step(100), 2);
        MicrostoreWorks house = House.make();
        Check.same("over the ends of instructions", house.step(9), 9);
        Check.same("two ended", house.ended(), 2);
    }

    private static void promise18StepRefuses() {
        Refusal.check("0", Scene::idle, ARGUMENT, works -> works.step(0));
        Refusal.check("-1", Scene::idle, ARGUMENT, works -> works.step(-1));
        Refusal.check("101", Scene::idle, ARGUMENT, works -> works.step(101));
    }

    private static void promise19Run() {
        MicrostoreWorks works = House.make();
        Check.same("one", works.run(1), 1);
        Check.same("its steps alone", works.cycles(), 4);
        Check.same("twenty", works.run(20), 20);
        Check.same("their steps alone", works.cycles(), 84);
        works.step(2);
        Check.same("what has begun ends too", works.run(1), 1);
        Check.same("cycles", works.cycles(), 88);
        works.write(3, 0, 0, 0, 0, 'n', 3, 0);
        Check.same("200 were done", works.run(1), 0);
        Check.same("not more", works.cycles(), 288);
        works.write(3, 0, 0, 0, 0, 'e', 0, 0);
        works.step(1);
        works.setEntry(0, 2, -1);
        works.setCell(24, 0x20);
        Check.same("until it is lost", works.run(20), 1);
        Check.same("lost", works.state(), 'l');
        Check.same("at the beginning of what has no entry", works.part('P'), 24);
    }

    private static void promise19RunRefuses() {
        Refusal.check("0", Scene::idle, ARGUMENT, works -> works.run(0));
        Refusal.check("-5", Scene::idle, ARGUMENT, works -> works.run(-5));
        Refusal.check("21", Scene::idle, ARGUMENT, works -> works.run(21));
    }
}
