/** The boundaries that the promises 20 to 30 name. */
final class BoundariesOfParts {
    static void run() {
        promise20State();
        promise21Cell();
        promise22Register();
        promise23Part();
        promise24Next();
        promise25Returns();
        promise26Bus();
        promise27Drivers();
        promise28SomeWay();
        promise28WhatIsRead();
        promise28WhatIsSet();
        promise28WaysGoOn();
        promise28WaysEnd();
        promise28Arguments();
        promise29Reached();
        promise29Arguments();
        promise30Defined();
        promise30Arguments();
        promise30Undefined();
    }

    // ---- parts

    private static void promise20State() {
        Sentence.promise(20, "Returns whether the processor runs, waits or is lost.");
        MicrostoreWorks works = new MicrostoreWorks();
        Check.same("runs at first", works.state(), 'r');
        works.step(1);
        Check.same("lost", works.state(), 'l');
        works.reset();
        Check.same("runs", works.state(), 'r');
        works.write(0, 0, 0, 0, House.READ, 'n', 0, 0);
        works.setPage(0, false);
        works.step(1);
        Check.same("waits", works.state(), 'w');
        works.setPage(0, true);
        Check.same("runs", works.state(), 'r');
        Sentence.promise(20, "Returns 'r', 'w' or 'l'.");
        MicrostoreWorks other = House.make();
        for (int i = 0; i < 60; i++) {
            other.setPage(i % 4, i % 3 == 0);
            other.step(1 + i % 5);
            Check.same("one of three", "rwl".indexOf(other.state()) >= 0, true);
        }
    }

    private static void promise21Cell() {
        Sentence.promise(21, "`cell`: the cell, 0 to 63");
        Refusal.range(Scene::begun, 0, 63, Refusal.INDEX, (it, value) -> it.cell(value));
        MicrostoreWorks works = new MicrostoreWorks();
        for (int cell = 0; cell < 64; cell++) {
            works.setCell(cell, 255 - cell);
        }
        works.setPage(0, false);
        works.setPage(3, false);
        for (int cell = 0; cell < 64; cell++) {
            Check.same("" + cell, works.cell(cell), 255 - cell);
        }
        Sentence.promise(21, "Throws `IndexOutOfBoundsException` if there is no such cell");
        Refusal.check("-1", Scene::begun, Refusal.INDEX, it -> it.cell(-1));
        Refusal.check("64", Scene::begun, Refusal.INDEX, it -> it.cell(64));
    }

    private static void promise22Register() {
        Sentence.promise(22, "`register`: the register, 0 to 3");
        Refusal.range(Scene::begun, 0, 3, Refusal.INDEX, (it, value) -> it.register(value));
        MicrostoreWorks works = new MicrostoreWorks();
        for (int register = 0; register < 4; register++) {
            works.setRegister(register, 255 - register);
        }
        for (int register = 0; register < 4; register++) {
            Check.same("" + register, works.register(register), 255 - register);
        }
        Sentence.promise(22, "Throws `IndexOutOfBoundsException` if there is no such register");
        Refusal.check("-1", Scene::begun, Refusal.INDEX, it -> it.register(-1));
        Refusal.check("4", Scene::begun, Refusal.INDEX, it -> it.register(4));
    }

    private static void promise23Part() {
        Sentence.promise(23, "`part`: 'P', 'Z', 'C', 'S', 'I', 'K', 'T', 'U', 'A', 'D', 'X' or 'E'");
        MicrostoreWorks works = new MicrostoreWorks();
        Bench.keepPlace(works, 63);
        works.start(62, 1, true);
        for (int i = 0; i < 6; i++) {
            Bench.put(works, i, new int[] {61, 5, 4, 3, 9, 2}[i], new int[] {16, 1, 2, 4, 8, 128}[i]);
        }
        works.write(6, House.CONSTANT, 7, 0, 0, 'p', 0, 1);
        works.setConstant(6, 1);
        works.step(7);
        int[] due = {61, 1, 1, 1, 1, 63, 5, 4, 3, 9, 2, 1};
        for (int i = 0; i < due.length; i++) {
            Check.same("" + Bench.PARTS.charAt(i), works.part(Bench.PARTS.charAt(i)), due[i]);
        }
        Sentence.promise(23, "Throws `IllegalArgumentException` if there is no such part");
        for (int i = 0; i < 65536; i++) {
            char part = (char) i;
            MicrostoreWorks other = new MicrostoreWorks();
            Check.same("part " + i, Check.nameOfThrown(() -> other.part(part)),
                    Bench.PARTS.indexOf(part) >= 0 ? "nothing" : "IllegalArgumentException");
        }
        for (char part : new char[] {0, '0', '3', 'B', 'p', 'z', 256 + 'Z', 65535}) {
            Refusal.check("part " + (int) part, Scene::begun, Refusal.ARGUMENT, it -> it.part(part));
        }
    }

    private static void promise24Next() {
        Sentence.promise(24, "Returns the address, perhaps 80, or -1 if there is none.");
        MicrostoreWorks works = new MicrostoreWorks();
        Check.same("at first", works.next(), 0);
        works.write(0, 0, 0, 0, 0, 'n', 79, 0);
        works.write(1, 0, 0, 0, 0, 'c', 2, 0);
        works.write(2, 0, 0, 0, 0, 'r', 0, 0);
        works.patch(79, 1, 2);
        works.step(1);
        Check.same("79", works.next(), 79);
        works.step(2);
        Check.same("80", works.next(), 80);
        works.step(1);
        Check.same("lost", works.next(), 0);
        works.reset();
        works.write(0, 0, 0, 0, 0, 'r', 79, 0);
        works.step(1);
        Check.same("none", works.next(), -1);
        works.step(1);
        Check.same("lost", works.next(), 0);
    }

    private static void promise25Returns() {
        Sentence.promise(25, "Returns the number of returns on the row.");
        MicrostoreWorks works = new MicrostoreWorks();
        Check.same("at first", works.returns(), 0);
        works.write(0, 0, 0, 0, 0, 'c', 0, 0);
        for (int calls = 1; calls <= 9; calls++) {
            works.step(1);
            Check.same("" + calls, works.returns(), Math.min(calls, 4));
        }
        works.write(0, 0, 0, 0, 0, 'r', 0, 0);
        works.write(1, 0, 0, 0, 0, 'r', 0, 0);
        for (int left = 3; left >= 0; left--) {
            works.step(1);
            Check.same("" + left, works.returns(), left);
        }
        works.step(1);
        Check.same("none was taken off", works.returns(), 0);
        Check.same("none", works.next(), -1);
    }

    private static void promise26Bus() {
        Sentence.promise(26, "Returns the byte, 0 if there was none.");
        Check.same("none was done", new MicrostoreWorks().bus(), 0);
        MicrostoreWorks lost = new MicrostoreWorks();
        lost.step(1);
        Check.same("none could be done", lost.bus(), 0);
        Sentence.promise(26, "Returns the bus of the last micro-step.");
        MicrostoreWorks works = Bench.heard(255, 0);
        Check.same("255", works.bus(), 255);
        works.reset();
        Check.same("behind a reset", works.bus(), 255);
        works.write(0, 0, 5, 0, 0, 'n', 1, 0);
        works.step(1);
        Check.same("none drives", works.bus(), 0);
        works.reset();
        works.write(0, House.CONSTANT, 5, House.TO_T, 0, 'e', 1, 0);
        works.setConstant(0, 254);
        works.step(1);
        Check.same("the bus, not the result", works.bus(), 254);
        works.write(0, 0, 0, 0, 0, 'n', 1, 0);
        works.step(2);
        Check.same("the last one, ahead of a lost way", works.bus(), 0);
        works.reset();
        works.write(0, House.CONSTANT, 0, 0, House.READ, 'n', 1, 0);
        works.setConstant(0, 77);
        works.setPage(0, false);
        works.step(1);
        Check.same("one that faults", works.bus(), 77);
        works.step(1);
        Check.same("while it waits", works.bus(), 77);
    }

    private static void promise27Drivers() {
        Sentence.promise(27, "Returns the sum as told for words, 0 if there was none.");
        Check.same("none was done", new MicrostoreWorks().drivers(), 0);
        MicrostoreWorks lost = new MicrostoreWorks();
        lost.step(1);
        Check.same("none could be done", lost.drivers(), 0);
        for (int drive = 0; drive < 128; drive++) {
            MicrostoreWorks works = new MicrostoreWorks();
            works.write(0, drive, 0, 0, 0, 'n', 0, 0);
            works.step(1);
            Check.same("" + drive, works.drivers(), drive);
        }
        Sentence.promise(27, "Returns the parts that drove the bus in the last micro-step.");
        MicrostoreWorks works = new MicrostoreWorks();
        works.write(0, 127, 0, 0, 0, 'e', 0, 0);
        works.step(1);
        works.write(0, 63, 0, 0, 0, 'e', 0, 0);
        Check.same("of the word as it was", works.drivers(), 127);
        works.reset();
        Check.same("behind a reset", works.drivers(), 127);
        works.write(0, 0, 0, 0, 0, 'n', 1, 0);
        works.step(2);
        Check.same("none drove, and then a lost way", works.drivers(), 0);
        works.reset();
        works.write(0, 5, 0, 0, House.WRITE, 'n', 1, 0);
        works.setPage(0, false);
        works.step(2);
        Check.same("one that faults", works.drivers(), 5);
    }

    // ---- the checker

    private static MicrostoreWorks word(int drive, int combine, int listen, int memory) {
        MicrostoreWorks works = new MicrostoreWorks();
        works.write(0, drive, combine, listen, memory, 'e', 0, 0);
        return works;
    }

    private static void promise28SomeWay() {
        Sentence.promise(28, "Returns the hidden parts that are read ahead of being set on some way from an"
                + " address on:");
        MicrostoreWorks works = new MicrostoreWorks();
        works.write(0, 0, 0, 0, 0, 'o', 8, House.TEST_Z);
        works.write(8, 0, 0, 15, 0, 'n', 10, 0);
        works.write(9, 0, 0, 7, 0, 'n', 10, 0);
        works.write(10, 7, 0, 0, House.WRITE, 'e', 0, 0);
        Check.same("D is set on one way alone", works.unset(0), 8);
        Check.same("all are set", works.unset(8), 0);
        Check.same("all but D", works.unset(9), 8);
        Check.same("none is set from here on", works.unset(10), 15);
        works.write(9, House.T, 0, House.TO_T, 0, 'n', 8, 0);
        Check.same("read, and then set", works.unset(0), 1);
        MicrostoreWorks ring = new MicrostoreWorks();
        ring.write(0, 0, 0, House.TO_T, 0, 'n', 1, 0);
        ring.write(1, House.T, 0, 0, 0, 'n', 2, 0);
        ring.write(2, House.U, 0, House.TO_U, 0, 'n', 0, 0);
        Check.same("a ring, T is set first", ring.unset(0), 2);
        Check.same("a ring, T is read first", ring.unset(1), 3);
        Check.same("a ring, T is set on the way round", ring.unset(2), 2);
        checkTheLongestWay();
    }

    private static void checkTheLongestWay() {
        MicrostoreWorks works = new MicrostoreWorks();
        for (int address = 0; address < 64; address++) {
            works.write(address, 0, 0, 0, 0, 'n', address + 1, 0);
        }
        putEnd(works);
        Check.same("at the end of 80", works.unset(0), 15);
        Check.same("all 80", works.reached(0), 80);
        works.write(40, 0, 0, 11, 0, 'n', 41, 0);
        Check.same("A alone is not set", works.unset(0), 4);
        works = fiveWays();
        Check.same("D is left on the last way alone", works.unset(0), 15);
        works.write(4, 0, 0, House.TO_D, 0, 'n', 9, 0);
        Check.same("on none", works.unset(0), 7);
        works = layers();
        Check.same("at the end of all layers", works.unset(0), 15);
        for (int times = 0; times < 300; times++) {
            Check.same("asked again", works.unset(times % 80), times % 80 / 8 == 9 && times % 80 != 79 ? 0 : 15);
        }
    }

    /** Five ways, each one longer and setting one part less than the one ahead of it, come to the same 70 words. */
    private static MicrostoreWorks fiveWays() {
        MicrostoreWorks works = new MicrostoreWorks();
        for (int way = 0; way < 4; way++) {
            works.write(way, 0, 0, 0, 0, 'c', 5 + way, 0);
            works.write(5 + way, 0, 0, 15 >> way << way, 0, 'n', 10, 0);
        }
        works.write(4, 0, 0, 0, 0, 'n', 9, 0);
        for (int address = 9; address < 64; address++) {
            works.write(address, 0, 0, 0, 0, 'n', address + 1, 0);
        }
        putEnd(works);
        return works;
    }

    /** Eight words in a row each, which all lead to all words of the next row; one of the last row reads all. */
    private static MicrostoreWorks layers() {
        MicrostoreWorks works = new MicrostoreWorks();
        for (int address = 0; address < 64; address++) {
            works.write(address, 0, 0, 0, 0, 'o', address / 8 * 8 + 8, 14);
        }
        for (int address = 64; address < 72; address++) {
            works.patch(address, 63, 72);
        }
        works.write(63, 0, 0, 0, 0, 'e', 0, 0);
        for (int address = 72; address < 79; address++) {
            works.patch(address, 63, 0);
        }
        works.write(63, 7, 0, 0, House.WRITE, 'e', 0, 0);
        works.patch(79, 63, 0);
        works.write(63, 0, 0, 0, 0, 'o', 64, 14);
        return works;
    }

    /** From 64 on words that lead one to another, of which the one at 79 reads all hidden parts. */
    private static void putEnd(MicrostoreWorks works) {
        for (int address = 64; address < 79; address++) {
            works.patch(address, 63, address + 1);
        }
        works.write(63, 7, 0, 0, House.WRITE, 'e', 0, 0);
        works.patch(79, 63, 0);
        works.write(63, 0, 0, 0, 0, 'n', 64, 0);
    }

    private static void promise28WhatIsRead() {
        Sentence.promise(28, "T and U are read when they drive, T also by the combinations 1 to 4, D when it drives or"
                + " a cell is written, A by a memory action, unless it listens in this word, and D by writing unless it"
                + " listens in this word.");
        Check.same("none", word(0, 0, 0, 0).unset(0), 0);
        Check.same("T drives", word(1, 0, 0, 0).unset(0), 1);
        Check.same("U drives", word(2, 0, 0, 0).unset(0), 2);
        Check.same("D drives", word(4, 0, 0, 0).unset(0), 8);
        Check.same("others drive", word(8 + 16 + 32 + 64, 0, 0, 0).unset(0), 0);
        for (int combine = 0; combine < 8; combine++) {
            int due = combine >= 1 && combine <= 4 ? 1 : 0;
            Check.same("combination " + combine, word(64, combine, 0, 0).unset(0), due);
            Check.same("T listens, too", word(64, combine, 1, 0).unset(0), due);
        }
        Check.same("all drive, and listen", word(7, 0, 15, 0).unset(0), 1 + 2 + 8);
        Check.same("it reads", word(0, 0, 0, 1).unset(0), 4);
        Check.same("it reads, A listens", word(0, 0, 4, 1).unset(0), 0);
        Check.same("it writes", word(0, 0, 0, 2).unset(0), 4 + 8);
        Check.same("it writes, A listens", word(0, 0, 4, 2).unset(0), 8);
        Check.same("it writes, D listens", word(0, 0, 8, 2).unset(0), 4);
        Check.same("it writes, both listen", word(0, 0, 12, 2).unset(0), 0);
        Check.same("it writes, both listen, D drives", word(4, 0, 12, 2).unset(0), 8);
        Check.same("it reads, D drives", word(4, 0, 4, 1).unset(0), 8);
    }

    private static void promise28WhatIsSet() {
        Sentence.promise(28, "A word sets what listens, and D if it reads.");
        for (int listen = 0; listen < 256; listen++) {
            if ((listen & 96) == 96) {
                continue;
            }
            MicrostoreWorks works = new MicrostoreWorks();
            works.write(0, 0, 0, listen, 0, 'n', 1, 0);
            works.write(1, 7, 0, 0, House.WRITE, 'e', 0, 0);
            Check.same("set by " + listen, works.unset(0), 15 & ~listen);
        }
        MicrostoreWorks works = new MicrostoreWorks();
        works.write(1, 7, 0, 0, House.WRITE, 'e', 0, 0);
        works.write(0, 0, 0, 4, House.READ, 'n', 1, 0);
        Check.same("it reads", works.unset(0), 1 + 2);
        works.write(0, 0, 0, 4, House.WRITE, 'n', 1, 0);
        Check.same("it writes", works.unset(0), 1 + 2 + 8);
    }

    /** At the address a word that drives T, so that a way which comes there is seen; the same for U at another one. */
    private static MicrostoreWorks seen(int forT, int forU) {
        MicrostoreWorks works = new MicrostoreWorks();
        works.write(1, House.U, 0, 0, 0, 'e', 0, 0);
        works.write(2, House.T, 0, 0, 0, 'e', 0, 0);
        if (forU >= 64) {
            works.patch(forU, 1, 0);
        } else {
            works.write(forU, House.U, 0, 0, 0, 'e', 0, 0);
        }
        if (forT >= 64) {
            works.patch(forT, 2, 0);
        } else {
            works.write(forT, House.T, 0, 0, 0, 'e', 0, 0);
        }
        return works;
    }

    private static void promise28WaysGoOn() {
        Sentence.promise(28, "A way goes on by 'n' at the number, by 'o' at the number with each choice of the bits"
                + " that are tested, by 'c' at the number and, as another way, at the address plus 1, catches"
                + " followed;");
        MicrostoreWorks works = seen(79, 31);
        works.write(30, 0, 0, 0, 0, 'n', 79, 0);
        Check.same("'n'", works.unset(30), 1);
        works.write(30, 0, 0, 0, 0, 'c', 79, 0);
        Check.same("'c'", works.unset(30), 1 + 2);
        for (int tests = 0; tests < 8; tests++) {
            for (int bits = 0; bits < 8; bits++) {
                for (int number : new int[] {16, 72}) {
                    MicrostoreWorks tested = seen(number + bits, 40);
                    tested.write(30, 0, 0, 0, 0, 'o', number, 2 * tests);
                    Check.same("'o' " + tests + " " + bits, tested.unset(30), (bits & ~tests) == 0 ? 1 : 0);
                    tested.write(30, 0, 0, 0, 0, 'o', number + 5, 2 * tests);
                    boolean isReached = (bits & 5) == 5 && (bits & 2 & ~tests) == 0;
                    Check.same("'o' with bits of the number", tested.unset(30), isReached ? 1 : 0);
                }
            }
        }
        works = seen(79, 64);
        works.write(30, 0, 0, 0, 0, 'n', 31, 0);
        works.setCatch(31, 64);
        works.setCatch(64, 79);
        works.setCatch(30, 79);
        Check.same("'n' caught, not twice, and not at 30", works.unset(30), 2);
        works.write(30, 0, 0, 0, 0, 'o', 24, 14);
        Check.same("'o' caught at 30 and 31", works.unset(30), 1 + 2);
        works.write(30, 0, 0, 0, 0, 'c', 5, 0);
        Check.same("'c' caught behind it", works.unset(30), 2);
        works.write(30, 0, 0, 0, 0, 'c', 64, 0);
        Check.same("'c' caught at both", works.unset(30), 1 + 2);
    }

    private static void promise28WaysEnd() {
        Sentence.promise(28, "it ends at other orders, and where there is no word.");
        for (char order : Bench.ORDERS.toCharArray()) {
            MicrostoreWorks works = seen(0, 31);
            works.setEntry(0, 0, 31);
            works.write(30, 0, 0, 0, 0, order, 31, 0);
            works.write(32, 0, 0, 0, 0, 'c', 30, 0);
            Check.same("at '" + order + "'", works.unset(30), "noc".indexOf(order) >= 0 ? 2 : 0);
            Check.same("reached", works.reached(30), "noc".indexOf(order) >= 0 ? 2 : 1);
        }
        MicrostoreWorks works = new MicrostoreWorks();
        for (int address = 0; address < 80; address++) {
            Check.same("no word", works.unset(address), 0);
        }
        works.write(0, House.T, 0, 0, 0, 'n', 50, 0);
        works.write(51, House.U, 0, 0, 0, 'e', 0, 0);
        Check.same("no word behind it", works.unset(0), 1);
        works.patch(79, 0, 50);
        works.write(0, 0, 0, 0, 0, 'c', 79, 0);
        works.patch(79, 0, 50);
        Check.same("no word at 80", works.unset(79), 0);
    }

    private static void promise28Arguments() {
        Sentence.promise(28, "`address`: the address, 0 to 79");
        Refusal.range(Scene::begun, 0, 79, Refusal.INDEX, (it, value) -> it.unset(value));
        Sentence.promise(28, "Returns the sum of 1 for T, 2 for U, 4 for A and 8 for D.");
        for (int sum = 0; sum < 16; sum++) {
            MicrostoreWorks works = new MicrostoreWorks();
            works.write(63, 0, 0, 15 - sum, 0, 'n', 62, 0);
            works.write(62, 7, 0, 0, House.READ, 'e', 0, 0);
            Check.same("" + sum, works.unset(63), sum);
        }
        Sentence.promise(28, "Throws `IndexOutOfBoundsException` if there is no such address");
        Refusal.check("-1", Scene::begun, Refusal.INDEX, it -> it.unset(-1));
        Refusal.check("80", Scene::begun, Refusal.INDEX, it -> it.unset(80));
    }

    private static void promise29Reached() {
        Sentence.promise(29, "Returns the number of addresses that are on some way from an address on, itself included,"
                + " if they have words.");
        MicrostoreWorks works = new MicrostoreWorks();
        for (int address = 0; address < 80; address++) {
            Check.same("no word", works.reached(address), 0);
        }
        for (int address = 0; address < 64; address++) {
            works.write(address, 0, 0, 0, 0, 'n', (address + 1) % 64, 0);
        }
        Check.same("all from 0 on", works.reached(0), 64);
        Check.same("all from 63 on", works.reached(63), 64);
        for (int address = 64; address < 80; address++) {
            works.patch(address, 0, address == 79 ? 0 : address + 1);
        }
        Check.same("all 80", works.reached(64), 80);
        Check.same("all behind 79, and itself", works.reached(79), 65);
        works.write(0, 0, 0, 0, 0, 'n', 0, 0);
        Check.same("itself alone", works.reached(0), 1);
        works.write(0, 0, 0, 0, 0, 'e', 0, 0);
        Check.same("itself alone", works.reached(0), 1);
        works.write(0, 0, 0, 0, 0, 'o', 0, 14);
        works.write(7, 0, 0, 0, 0, 'e', 0, 0);
        Check.same("each one once", works.reached(0), 8);
        MicrostoreWorks last = new MicrostoreWorks();
        last.write(0, 0, 0, 0, 0, 'c', 5, 0);
        last.patch(79, 0, 5);
        Check.same("no word at 5, and none at 80", last.reached(79), 1);
        Check.same("no word at 5, and none at 1", last.reached(0), 1);
        last.write(1, 0, 0, 0, 0, 'r', 0, 0);
        Check.same("one at 1", last.reached(0), 2);
        last.setCatch(5, 79);
        Check.same("caught to 79", last.reached(0), 3);
        last.setCatch(1, 70);
        Check.same("caught to where no word is", last.reached(0), 2);
        last.setCatch(0, 70);
        Check.same("not caught itself", last.reached(0), 2);
        checkEachOneCountsOnce();
    }

    private static void checkEachOneCountsOnce() {
        Check.same("five ways to the same words", fiveWays().reached(0), 80);
        MicrostoreWorks works = layers();
        for (int times = 0; times < 400; times++) {
            Check.same("itself, and all behind it", works.reached(times % 80), 73 - times % 80 / 8 * 8);
        }
        works = new MicrostoreWorks();
        for (int address = 0; address < 64; address++) {
            works.write(address, 0, 0, 15, 0, 'n', address + 1, 0);
        }
        Check.same("though all hidden parts are set", works.reached(0), 64);
        works.write(0, 0, 0, 0, 0, 'o', 2, House.TEST_Z);
        works.write(2, 0, 0, 15, 0, 'n', 62, 0);
        works.write(3, 0, 0, 3, 0, 'n', 62, 0);
        Check.same("two ways that set other parts", works.reached(0), 5);
    }

    private static void promise29Arguments() {
        Sentence.promise(29, "`address`: the address, 0 to 79");
        Refusal.range(Scene::begun, 0, 79, Refusal.INDEX, (it, value) -> it.reached(value));
        Sentence.promise(29, "Throws `IndexOutOfBoundsException` if there is no such address");
        Refusal.check("-1", Scene::begun, Refusal.INDEX, it -> it.reached(-1));
        Refusal.check("80", Scene::begun, Refusal.INDEX, it -> it.reached(80));
    }

    // ---- definitions

    private static void promise30Defined() {
        Sentence.promise(30, "Returns what a part would be by the definition of the instruction at hand, from what was"
                + " kept when it began.");
        MicrostoreWorks works = House.make();
        House.load(works, 62, House.code(2, 0, 1), House.code(5, 0, 0));
        works.setRegister(0, 200);
        works.setRegister(1, 56);
        works.start(62, 0, false);
        for (int steps = 0; steps < 5; steps++) {
            Check.same("0 behind " + steps, works.defined('0'), 0);
            Check.same("P behind " + steps, works.defined('P'), 63);
            Check.same("Z and C behind " + steps, works.defined('Z') + works.defined('C'), 2);
            works.step(1);
        }
        Check.same("of the next one", works.defined('0'), 1);
        Check.same("P of the next one", works.defined('P'), 0);
        Check.same("Z of the next one", works.defined('Z') + works.defined('C'), 0);
        works.start(62, 0, true);
        Check.same("what calls set", works.defined('I'), 1);
        Check.same("P", works.defined('P'), 63);
        works.setCell(48, House.code(6, 3, 0));
        works.setCell(49, 255);
        works.interrupt();
        works.run(1);
        Check.same("behind an interrupt", works.defined('P'), 50);
        Check.same("its register", works.defined('3'), 255);
        Check.same("its K", works.defined('K'), 63);
        works.setPage(3, false);
        Check.same("absent pages do not matter", works.defined('3'), 255);
        works.run(1);
        Check.same("behind a fault", works.defined('3'), 255);
        MicrostoreWorks written = new MicrostoreWorks();
        written.write(0, 0, 6, House.TO_D, House.WRITE, 'n', 1, 0);
        written.step(1);
        Check.same("the cell P has changed", written.cell(0), 255);
        Check.same("the cell as it was kept", written.defined('I'), 0);
    }

    private static void promise30Arguments() {
        Sentence.promise(30, "`part`: 'P', 'Z', 'C', 'S', 'I' or 'K', or '0' to '3' for a register");
        MicrostoreWorks works = House.make();
        Bench.keepPlace(works, 9);
        works.write(0, House.P, 5, House.TO_P, 0, 'e', 0, 0);
        for (int i = 0; i < 4; i++) {
            works.setRegister(i, 252 + i);
        }
        works.start(63, 1, true);
        works.setCell(63, 0xE0);
        int[] due = {0, 0, 0, 1, 1, 9, 252, 253, 254, 255};
        String parts = "PZCSIK0123";
        for (int i = 0; i < parts.length(); i++) {
            Check.same("" + parts.charAt(i), works.defined(parts.charAt(i)), due[i]);
        }
        Sentence.promise(30, "Throws `IllegalArgumentException` if there is no such part");
        for (int i = 0; i < 65536; i++) {
            char part = (char) i;
            MicrostoreWorks other = new MicrostoreWorks();
            Check.same("part " + i, Check.nameOfThrown(() -> other.defined(part)),
                    parts.indexOf(part) >= 0 ? "nothing" : "IllegalArgumentException");
        }
        for (char part : new char[] {0, '/', '4', 'T', 'U', 'A', 'D', 'X', 'E', 'p', 256 + '0', 65535}) {
            Refusal.check("part " + (int) part, Scene::begun, Refusal.ARGUMENT, it -> it.defined(part));
        }
    }

    private static void promise30Undefined() {
        Sentence.promise(30, "Throws `UnsupportedOperationException` if the instruction is undefined");
        for (char part : "PZCSIK0123".toCharArray()) {
            Refusal.check("" + part, BoundariesOfParts::allPrefixes, Refusal.UNSUPPORTED, it -> it.defined(part));
        }
        MicrostoreWorks works = allPrefixes();
        works.setCell(4, 0xE0);
        Check.same("63 prefixes", works.defined('P'), 5);
        works.setCell(4, 0xF0);
        works.start(5, 0, false);
        Check.same("no prefixes in the set 0", works.defined('P'), 6);
    }

    private static MicrostoreWorks allPrefixes() {
        MicrostoreWorks works = new MicrostoreWorks();
        for (int cell = 0; cell < 64; cell++) {
            works.setCell(cell, 0xF0 + cell % 16);
        }
        works.start(5, 1, false);
        return works;
    }
}
