/** The boundaries that the terms name of numbers, of visible and hidden parts, and of micro-words. */
final class BoundariesOfWords {
    private static final int BYTE_HOLDERS = House.TO_T + House.TO_U + House.TO_D + House.TO_FIRST + House.TO_X;

    static void run() {
        useOf512Calls();
        cells();
        cellsOfAPage();
        bytes();
        modulo256();
        places();
        visibleParts();
        visiblePartsAtFirst();
        hiddenParts();
        hiddenPartsAtFirst();
        firstAndSecondRegister();
        exchangedRegisters();
        operation();
        addresses();
        noWordAtFirst();
        whatAWordHas();
        driveSum();
        combination();
        listenSum();
        memoryAction();
        number();
        tellsFlags();
        testSum();
        forbiddenForTheFirst();
        forbiddenD();
        forbiddenR();
        forbiddenM();
        forbiddenT();
        forbiddenK();
    }

    private static void useOf512Calls() {
        Sentence.introduction("An object is used for at most 512 calls after it has been made;");
        MicrostoreWorks works = new MicrostoreWorks();
        works.setWait(9);
        works.write(0, 0, 0, 0, House.READ, 'e', 0, 0);
        for (int call = 3; call < 511; call++) {
            Check.same("call " + call, works.step(100), 100);
        }
        Check.same("the call 511", works.ended(), 508 * 100);
        Check.same("the call 512", works.cycles(), 508 * 1000);
    }

    private static void cells() {
        Sentence.terms("There are the cells 0 to 63 of the memory, in 4 pages");
        MicrostoreWorks works = new MicrostoreWorks();
        for (int cell = 0; cell < 64; cell++) {
            works.setCell(cell, 64 + cell);
        }
        for (int cell = 0; cell < 64; cell++) {
            Check.same("cell " + cell, works.cell(cell), 64 + cell);
        }
        for (int page = 0; page < 4; page++) {
            Check.same("page " + page, works.setPage(page, true), true);
        }
        for (int outside : new int[] {-1, 64}) {
            Refusal.check("cell " + outside, Scene::idle, Refusal.INDEX, it -> it.setCell(outside, 0));
        }
        for (int outside : new int[] {-1, 4}) {
            Refusal.check("page " + outside, Scene::idle, Refusal.INDEX, it -> it.setPage(outside, false));
        }
    }

    private static void cellsOfAPage() {
        Sentence.terms("the page p has the cells from 16 times p on, 16 of them.");
        for (int i = 0; i < 4 * 64 * 2; i++) {
            int page = i / 128;
            int cell = i / 2 % 64;
            MicrostoreWorks works = new MicrostoreWorks();
            works.write(0, House.CONSTANT, 0, House.TO_A, 1 + i % 2, 'e', 0, 0);
            works.setConstant(0, cell);
            works.setPage(page, false);
            works.step(1);
            boolean isInPage = cell >= 16 * page && cell < 16 * page + 16;
            Check.same("cell " + cell + ", page " + page + " absent", works.faults(), isInPage ? 1 : 0);
        }
    }

    private static void bytes() {
        Sentence.terms("A cell and most parts hold a byte, a number from 0 to 255;");
        for (int value : new int[] {0, 1, 127, 128, 255}) {
            MicrostoreWorks works = Bench.heard(value, BYTE_HOLDERS);
            for (char part : "TUDX".toCharArray()) {
                Check.same("" + part, works.part(part), value);
            }
            Check.same("register", works.register(0), value);
            works.write(1, 0, 0, 0, House.WRITE, 'n', 2, 0);
            works.step(1);
            Check.same("cell", works.cell(0), value);
        }
    }

    private static void modulo256() {
        Sentence.terms("what would be another number is brought there modulo 256.");
        Check.same("255 and 1", Bench.combined(1, 255, 1, 0).part('U'), 0);
        Check.same("255 and 255", Bench.combined(1, 255, 255, 0).part('U'), 254);
        Check.same("0 less 1", Bench.combined(2, 0, 1, 0).part('U'), 255);
        Check.same("0 less 255", Bench.combined(2, 0, 255, 0).part('U'), 1);
        Check.same("behind 255", Bench.combined(5, 7, 255, 0).part('U'), 0);
        Check.same("ahead of 0", Bench.combined(6, 7, 0, 0).part('U'), 255);
        MicrostoreWorks works = new MicrostoreWorks();
        works.write(0, 0, 6, BYTE_HOLDERS, 0, 'n', 1, 0);
        works.write(1, House.FIRST, 0, 0, House.WRITE, 'n', 2, 0);
        works.step(2);
        Check.same("a register", works.register(0), 255);
        Check.same("X", works.part('X'), 255);
        Check.same("a cell", works.cell(0), 255);
        works = new MicrostoreWorks();
        works.setRegister(3, 255);
        works.setCell(0, House.code(5, 3, 0));
        Check.same("by a definition", works.defined('3'), 0);
    }

    private static void places() {
        Sentence.terms("A place is a number from 0 to 63, and is brought there modulo 64.");
        int[] bytes = {0, 63, 64, 65, 127, 128, 192, 255};
        int[] due = {0, 63, 0, 1, 63, 0, 0, 63};
        for (int i = 0; i < bytes.length; i++) {
            MicrostoreWorks works = Bench.heard(bytes[i], House.TO_A + House.TO_P);
            Check.same("A of " + bytes[i], works.part('A'), due[i]);
            Check.same("P of " + bytes[i], works.part('P'), due[i]);
            works.write(1, House.P, 5, House.TO_P, 0, 'n', 2, 0);
            works.step(1);
            Check.same("P behind " + due[i], works.part('P'), (due[i] + 1) % 64);
            Check.same("P drives as a place", works.bus(), due[i]);
            works.write(2, House.CONSTANT, 0, House.TO_P, 0, 'e', 0, 0);
            works.setConstant(2, bytes[i]);
            works.interrupt();
            works.reset();
            works.start(9, 0, true);
            works.run(1);
            Check.same("K of " + bytes[i], works.part('K'), due[i]);
        }
    }

    private static void visibleParts() {
        Sentence.terms("There are the registers 0 to 3, the place P, the flags Z and C, each 0 or 1, the set S, 0 or 1,"
                + " and the gate I, 1 if interrupts are let in, otherwise 0;");
        MicrostoreWorks works = new MicrostoreWorks();
        for (int i = 0; i < 4; i++) {
            works.setRegister(i, 255 - i);
        }
        for (int i = 0; i < 4; i++) {
            Check.same("register " + i, works.register(i), 255 - i);
        }
        for (int outside : new int[] {-1, 4}) {
            Refusal.check("register " + outside, Scene::idle, Refusal.INDEX, it -> it.setRegister(outside, 0));
        }
        for (int flags = 0; flags < 4; flags++) {
            MicrostoreWorks told = new MicrostoreWorks();
            Bench.putFlags(told, 0, flags / 2, flags % 2);
            told.step(2);
            Check.same("Z", told.part('Z'), flags / 2);
            Check.same("C", told.part('C'), flags % 2);
        }
        for (int set = 0; set < 2; set++) {
            works.start(63, set, set == 1);
            Check.same("P", works.part('P'), 63);
            Check.same("S", works.part('S'), set);
            Check.same("I", works.part('I'), set);
        }
        works.interrupt();
        works.write(0, 0, 0, 0, 0, 'e', 0, 0);
        works.step(1);
        Check.same("let in with 1", works.taken(), 1);
        works.interrupt();
        works.step(1);
        Check.same("not with 0", works.taken(), 1);
    }

    private static void visiblePartsAtFirst() {
        Sentence.terms("and the kept place K. All are 0 at first.");
        for (char part : "PZCSIK".toCharArray()) {
            Check.same("" + part, new MicrostoreWorks().part(part), 0);
        }
        for (int i = 0; i < 4; i++) {
            Check.same("register " + i, new MicrostoreWorks().register(i), 0);
        }
    }

    private static void hiddenParts() {
        Sentence.terms("There are the bytes T and U, the address A, which is a place, the data D, a byte,"
                + " the instruction X, a byte, and the exchange E, 0 or 1");
        MicrostoreWorks works = Bench.heard(255, 1 + 2 + 4 + 8 + 128);
        Check.same("T", works.part('T'), 255);
        Check.same("U", works.part('U'), 255);
        Check.same("A", works.part('A'), 63);
        Check.same("D", works.part('D'), 255);
        Check.same("X", works.part('X'), 255);
        works.write(0, 0, 0, 0, 0, 'p', 0, 0);
        works.reset();
        for (int times = 1; times <= 4; times++) {
            works.step(1);
            Check.same("E exchanged " + times + " times", works.part('E'), times % 2);
        }
    }

    private static void hiddenPartsAtFirst() {
        Sentence.terms("the exchange E, 0 or 1. All are 0 at first.");
        for (char part : "TUADXE".toCharArray()) {
            Check.same("" + part, new MicrostoreWorks().part(part), 0);
        }
    }

    private static MicrostoreWorks withX(int x, char order) {
        MicrostoreWorks works = new MicrostoreWorks();
        for (int i = 0; i < 4; i++) {
            works.setRegister(i, 10 + i);
        }
        Bench.put(works, 5, x, House.TO_X);
        works.write(6, 0, 0, 0, 0, order, 7, 0);
        works.write(0, 0, 0, 0, 0, 'n', 5, 0);
        works.step(3);
        return works;
    }

    private static int busOf(MicrostoreWorks works, int drive) {
        works.write(0, drive, 0, 0, 0, 'n', 0, 0);
        works.write(7, drive, 0, 0, 0, 'n', 7, 0);
        works.step(1);
        return works.bus();
    }

    private static void firstAndSecondRegister() {
        Sentence.terms("The first register is the one whose number is X modulo 4, the second one that whose number is"
                + " X divided by 4, modulo 4;");
        for (int x = 0; x < 256; x++) {
            MicrostoreWorks works = withX(x, 'n');
            Check.same("first of " + x, busOf(works, House.FIRST), 10 + x % 4);
            Check.same("second of " + x, busOf(works, House.SECOND), 10 + x / 4 % 4);
        }
    }

    private static void exchangedRegisters() {
        Sentence.terms("if E is 1, they are exchanged.");
        for (int x = 0; x < 256; x++) {
            MicrostoreWorks works = withX(x, 'p');
            Check.same("E", works.part('E'), 1);
            Check.same("first of " + x, busOf(works, House.FIRST), 10 + x / 4 % 4);
            Check.same("second of " + x, busOf(works, House.SECOND), 10 + x % 4);
        }
    }

    private static void operation() {
        Sentence.terms("The operation is X divided by 16, from 0 to 15.");
        for (int x = 0; x < 256; x++) {
            MicrostoreWorks works = withX(x, 'd');
            Check.same("no entry", works.next(), -1);
            works.reset();
            for (int i = 0; i < 16; i++) {
                works.setEntry(0, i, 40 + i);
            }
            works.step(3);
            Check.same("the operation of " + x, works.next(), 40 + x / 16);
        }
    }

    private static void addresses() {
        Sentence.terms("There are the addresses 0 to 79, of which those from 64 on are the writable store.");
        MicrostoreWorks works = new MicrostoreWorks();
        for (int address = 0; address < 64; address++) {
            Check.same("" + address, works.write(address, 0, 0, 0, 0, 'e', 0, 0), address + 1);
        }
        for (int address = 64; address < 80; address++) {
            Check.same("" + address, works.patch(address, 0, 0), address + 1);
        }
        Refusal.check("write 64", Scene::begun, Refusal.INDEX, it -> it.write(64, 0, 0, 0, 0, 'e', 0, 0));
        Refusal.check("patch 63", Scene::begun, Refusal.INDEX, it -> it.patch(63, 0, 0));
        Refusal.check("patch 80", Scene::begun, Refusal.INDEX, it -> it.patch(80, 0, 0));
    }

    private static void noWordAtFirst() {
        Sentence.terms("At an address there is a word or none, none at first.");
        for (int address = 0; address < 80; address++) {
            MicrostoreWorks works = new MicrostoreWorks();
            int at = address;
            Check.same("none", works.reached(at), 0);
            Check.same("none has a constant", Check.nameOfThrown(() -> works.setConstant(at, 0)),
                    "NoSuchElementException");
            Check.same("the first one", works.write(at % 64, 0, 0, 0, 0, 'e', 0, 0), 1);
            Check.same("there is one", works.reached(at % 64), 1);
        }
    }

    private static void whatAWordHas() {
        Sentence.terms("A word has:");
        MicrostoreWorks works = new MicrostoreWorks();
        Check.same("the least of all", works.write(0, 0, 0, 0, 0, 'o', 0, 0), 1);
        Check.same("the most of all that is not forbidden", works.write(1, 63, 7, 191, 2, 'o', 79, 15), 2);
    }

    /** Each part lacks one bit that all others have, so that each one that drives is seen on the bus. */
    private static void driveSum() {
        Sentence.terms("parts that drive the bus, as a sum of 1 for T, 2 for U, 4 for D, 8 for P,"
                + " 16 for the first register, 32 for the second register and 64 for its constant, which is a byte;");
        int[] bytes = {0xFE, 0xFD, 0xFB, 0x37, 0xEF, 0xDF, 0xBF};
        int[] listeners = {House.TO_T, House.TO_U, House.TO_D, House.TO_P, House.TO_FIRST, House.TO_SECOND};
        for (int drive = 0; drive < 128; drive++) {
            MicrostoreWorks works = new MicrostoreWorks();
            works.write(0, 0, 0, 0, 0, 'n', 7, 0);
            Bench.put(works, 7, 0x0E, House.TO_X);
            for (int i = 0; i < 6; i++) {
                Bench.put(works, 8 + i, bytes[i], listeners[i]);
            }
            works.write(14, drive, 0, 0, 0, 'e', 0, 0);
            works.setConstant(14, bytes[6]);
            works.step(9);
            int due = drive == 0 ? 0 : 255;
            for (int i = 0; i < 7; i++) {
                due &= (drive >> i & 1) == 1 ? bytes[i] : 255;
            }
            Check.same("bus of " + drive, works.bus(), due);
            Check.same("drivers of " + drive, works.drivers(), drive);
        }
        Refusal.check("-1", Scene::begun, Refusal.ARGUMENT, it -> it.write(0, -1, 0, 0, 0, 'e', 0, 0));
        Refusal.check("128", Scene::begun, Refusal.ARGUMENT, it -> it.write(0, 128, 0, 0, 0, 'e', 0, 0));
        Refusal.check("constant 256", Scene::begun, Refusal.ARGUMENT, it -> it.setConstant(0, 256));
    }

    private static void combination() {
        Sentence.terms("a combination from 0 to 7;");
        int[] due = {12, 22, 254, 8, 6, 13, 11, 6};
        for (int combine = 0; combine < 8; combine++) {
            Check.same("" + combine, Bench.combined(combine, 10, 12, 0).part('U'), due[combine]);
        }
        Refusal.check("-1", Scene::begun, Refusal.ARGUMENT, it -> it.write(0, 0, -1, 0, 0, 'e', 0, 0));
        Refusal.check("8", Scene::begun, Refusal.ARGUMENT, it -> it.write(0, 0, 8, 0, 0, 'e', 0, 0));
    }

    private static void listenSum() {
        Sentence.terms("parts that listen, as a sum of 1 for T, 2 for U, 4 for A, 8 for D, 16 for P,"
                + " 32 for the first register, 64 for the second register and 128 for X;");
        for (int listen = 0; listen < 256; listen++) {
            if ((listen & 96) == 96) {
                continue;
            }
            MicrostoreWorks works = new MicrostoreWorks();
            Bench.put(works, 0, 4, House.TO_X);
            Bench.put(works, 1, 0x29, listen);
            works.step(2);
            Check.same("T of " + listen, works.part('T'), (listen & 1) != 0 ? 0x29 : 0);
            Check.same("U of " + listen, works.part('U'), (listen & 2) != 0 ? 0x29 : 0);
            Check.same("A of " + listen, works.part('A'), (listen & 4) != 0 ? 0x29 : 0);
            Check.same("D of " + listen, works.part('D'), (listen & 8) != 0 ? 0x29 : 0);
            Check.same("P of " + listen, works.part('P'), (listen & 16) != 0 ? 0x29 : 0);
            Check.same("first of " + listen, works.register(0), (listen & 32) != 0 ? 0x29 : 0);
            Check.same("second of " + listen, works.register(1), (listen & 64) != 0 ? 0x29 : 0);
            Check.same("X of " + listen, works.part('X'), (listen & 128) != 0 ? 0x29 : 4);
        }
        Refusal.check("-1", Scene::begun, Refusal.ARGUMENT, it -> it.write(0, 0, 0, -1, 0, 'e', 0, 0));
        Refusal.check("256", Scene::begun, Refusal.ARGUMENT, it -> it.write(0, 0, 0, 256, 0, 'e', 0, 0));
    }

    private static void memoryAction() {
        Sentence.terms("a memory action, 0 for none, 1 to read and 2 to write;");
        for (int memory = 0; memory < 3; memory++) {
            MicrostoreWorks works = new MicrostoreWorks();
            works.setCell(63, 9);
            Bench.put(works, 0, 5, House.TO_D);
            works.write(1, House.CONSTANT, 0, House.TO_A, memory, 'n', 2, 0);
            works.setConstant(1, 63);
            works.step(2);
            Check.same("D with " + memory, works.part('D'), memory == 1 ? 9 : 5);
            Check.same("the cell with " + memory, works.cell(63), memory == 2 ? 5 : 9);
        }
        Refusal.check("-1", Scene::begun, Refusal.ARGUMENT, it -> it.write(0, 0, 0, 0, -1, 'e', 0, 0));
        Refusal.check("3", Scene::begun, Refusal.ARGUMENT, it -> it.write(0, 0, 0, 0, 3, 'e', 0, 0));
    }

    private static void number() {
        Sentence.terms("a number from 0 to 79;");
        for (int number = 0; number < 80; number++) {
            MicrostoreWorks works = new MicrostoreWorks();
            works.write(0, 0, 0, 0, 0, 'n', number, 0);
            works.step(1);
            Check.same("" + number, works.next(), number);
        }
        Refusal.check("-1", Scene::begun, Refusal.ARGUMENT, it -> it.write(0, 0, 0, 0, 0, 'e', -1, 0));
        Refusal.check("80", Scene::begun, Refusal.ARGUMENT, it -> it.write(0, 0, 0, 0, 0, 'e', 80, 0));
    }

    private static void tellsFlags() {
        Sentence.terms("whether it tells the flags;");
        for (int more = 0; more < 16; more++) {
            MicrostoreWorks works = new MicrostoreWorks();
            works.write(0, 0, 6, 0, 0, 'o', 8, more);
            works.step(1);
            Check.same("C with " + more, works.part('C'), more % 2);
            Check.same("found with " + more, works.found(), more % 2);
        }
    }

    private static void testSum() {
        Sentence.terms("and tests, as a sum of 1 for Z, 2 for C and 4 for an interrupt.");
        for (int tests = 0; tests < 8; tests++) {
            MicrostoreWorks works = new MicrostoreWorks();
            works.start(0, 0, true);
            works.interrupt();
            Bench.putFlags(works, 0, 1, 1);
            works.write(2, 0, 0, 0, 0, 'o', 8, 2 * tests);
            works.step(3);
            Check.same("" + tests, works.next(), 8 + tests);
        }
        Refusal.check("-1", Scene::begun, Refusal.ARGUMENT, it -> it.reason(0, 0, 0, 'o', -1));
        Refusal.check("8", Scene::begun, Refusal.ARGUMENT, it -> it.reason(0, 0, 0, 'o', 8));
    }

    // ---- forbidden words

    private static char reason(int drive, int listen, int memory, char order, int tests) {
        return new MicrostoreWorks().reason(drive, listen, memory, order, tests);
    }

    private static void forbiddenForTheFirst() {
        Sentence.terms("A word is forbidden for the first of these reasons that applies:");
        Check.same("all but k", reason(0, 8 + 96, 1, 'c', 7), 'd');
        Check.same("d and k", reason(64, 8 + 96, 1, 'o', 7), 'd');
        Check.same("all but d and k", reason(0, 96, 1, 'c', 7), 'r');
        Check.same("r and k", reason(64, 96, 1, 'o', 7), 'r');
        Check.same("m and t", reason(0, 0, 1, 'r', 7), 'm');
        Check.same("t alone", reason(64, 0, 0, 'r', 7), 't');
        Check.same("k alone", reason(64, 0, 1, 'o', 7), 'k');
        Check.same("none", reason(63, 0, 1, 'o', 7), '-');
        Refusal.check("write", Scene::begun, Refusal.UNSUPPORTED, it -> it.write(0, 64, 0, 0, 0, 'o', 0, 0));
    }

    private static void forbiddenD() {
        Sentence.terms("'d' it reads, and D listens;");
        for (int memory = 0; memory < 3; memory++) {
            for (int listen = 0; listen < 256; listen++) {
                boolean isDue = memory == 1 && listen / 8 % 2 == 1;
                Check.same(memory + " " + listen, reason(0, listen, memory, 'n', 0) == 'd', isDue);
            }
        }
    }

    private static void forbiddenR() {
        Sentence.terms("'r' both registers listen;");
        for (int listen = 0; listen < 256; listen++) {
            boolean isDue = listen / 32 % 2 == 1 && listen / 64 % 2 == 1;
            Check.same("" + listen, reason(127, listen, 0, 'n', 0), isDue ? 'r' : '-');
        }
    }

    private static void forbiddenM() {
        Sentence.terms("'m' it calls or returns, and reads or writes;");
        for (char order : Bench.ORDERS.toCharArray()) {
            for (int memory = 0; memory < 3; memory++) {
                boolean isDue = (order == 'c' || order == 'r') && memory != 0;
                Check.same(order + " " + memory, reason(0, 0, memory, order, 0), isDue ? 'm' : '-');
            }
        }
    }

    private static void forbiddenT() {
        Sentence.terms("'t' it has tests, and its order is another one than 'o';");
        for (char order : Bench.ORDERS.toCharArray()) {
            for (int tests = 0; tests < 8; tests++) {
                boolean isDue = order != 'o' && tests != 0;
                Check.same(order + " " + tests, reason(0, 0, 0, order, tests), isDue ? 't' : '-');
            }
        }
    }

    private static void forbiddenK() {
        Sentence.terms("'k' its constant drives, and its order is 'o'.");
        for (char order : Bench.ORDERS.toCharArray()) {
            for (int drive = 0; drive < 128; drive++) {
                boolean isDue = order == 'o' && drive >= 64;
                Check.same(order + " " + drive, reason(drive, 0, 0, order, 0), isDue ? 'k' : '-');
            }
        }
    }
}
