/** The boundaries that the terms name of definitions, judging, late flags and exceptions. */
final class BoundariesOfDefinitions {
    static void run() {
        theByteOfTheCellP();
        firstAndSecond();
        nothing();
        becomesS();
        arithmetic();
        theNextByte();
        load();
        store();
        jumps();
        loadAndGoOn();
        theOtherSet();
        theKeptPlace();
        theGate();
        theSet1();
        prefix();
        byteBehindAPrefix();
        severalPrefixes();
        manyPrefixes();
        judgedWhenItEnds();
        rightOrWrong();
        absentPagesDoNotMatter();
        flagsAreKeptOnly();
        flagsAreFound();
        flagsTakenBack();
        exceptionsChangeNothing();
        firstOfSeveralExceptions();
    }

    // ---- definitions

    /** House, with this instruction at the place, no instruction begun. */
    private static MicrostoreWorks at(int place, int set, int... bytes) {
        MicrostoreWorks works = House.make();
        House.load(works, place, bytes);
        works.start(place, set, false);
        return works;
    }

    private static MicrostoreWorks with(MicrostoreWorks works, int... registers) {
        for (int i = 0; i < registers.length; i++) {
            works.setRegister(i, registers[i]);
        }
        return works;
    }

    /** By the definition P, Z, C, S, I, K and the registers become this; and the words of the house do it. */
    private static void check(String what, MicrostoreWorks works, String due) {
        StringBuilder defined = new StringBuilder();
        for (char part : "PZCSIK0123".toCharArray()) {
            defined.append(works.defined(part)).append(part == '3' ? "" : " ");
        }
        Check.same(what, defined.toString(), due);
        int before = works.wrong();
        works.run(1);
        Check.same(what + " is done so and judged right", works.wrong(), before);
        StringBuilder done = new StringBuilder();
        for (char part : "PZCSIK".toCharArray()) {
            done.append(works.part(part)).append(' ');
        }
        done.append(works.register(0)).append(' ').append(works.register(1)).append(' ');
        Check.same(what + " is done", done.append(works.register(2)).append(' ').append(works.register(3)).toString(),
                due);
    }

    private static void theByteOfTheCellP() {
        Sentence.terms("it takes the byte of the cell P as X, and P increases by 1;");
        for (int place : new int[] {0, 1, 62, 63}) {
            int behind = (place + 1) % 64;
            check("at " + place, with(at(place, 0, House.code(1, 0, 1)), 5, 6), behind + " 0 0 0 0 0 6 6 0 0");
        }
    }

    private static void firstAndSecond() {
        Sentence.terms("d is the first register, s the second one.");
        for (int i = 0; i < 16; i++) {
            int[] due = {20, 21, 22, 23};
            due[i % 4] = 20 + i / 4;
            check("" + i, with(at(0, 0, House.code(1, i % 4, i / 4)), 20, 21, 22, 23),
                    "1 0 0 0 0 0 " + due[0] + " " + due[1] + " " + due[2] + " " + due[3]);
        }
    }

    private static void nothing() {
        Sentence.terms("0 nothing;");
        check("least", with(at(5, 0, 0x00), 1, 2, 3, 4), "6 0 0 0 0 0 1 2 3 4");
        check("most", with(at(63, 0, 0x0F), 255, 254, 253, 252), "0 0 0 0 0 0 255 254 253 252");
    }

    private static void becomesS() {
        Sentence.terms("1 d becomes s;");
        check("255", with(at(0, 0, House.code(1, 0, 3)), 0, 2, 3, 255), "1 0 0 0 0 0 255 2 3 255");
        check("0", with(at(0, 0, House.code(1, 3, 0)), 0, 2, 3, 255), "1 0 0 0 0 0 0 2 3 0");
        check("itself", with(at(0, 0, House.code(1, 2, 2)), 1, 2, 3, 4), "1 0 0 0 0 0 1 2 3 4");
    }

    private static void arithmetic() {
        Sentence.terms("2 d becomes d plus s, 3 d minus s, 4 the bits that both have, 5 d plus 1, each with the flags"
                + " that a micro-step with T as d and the bus as s would tell, for 5 with the bus as d;");
        checkPair(2, 100, 155, "0 0", 255);
        checkPair(2, 100, 156, "1 1", 0);
        checkPair(2, 255, 255, "0 1", 254);
        checkPair(2, 0, 0, "1 0", 0);
        checkPair(3, 5, 4, "0 0", 1);
        checkPair(3, 5, 5, "1 0", 0);
        checkPair(3, 5, 6, "0 1", 255);
        checkPair(3, 0, 255, "0 1", 1);
        checkPair(4, 0xCC, 0xAA, "0 0", 0x88);
        checkPair(4, 0xF0, 0x0F, "1 0", 0);
        checkPair(4, 255, 255, "0 0", 255);
        checkPair(5, 254, 0, "0 0", 255);
        checkPair(5, 255, 0, "1 1", 0);
        checkPair(5, 0, 255, "0 0", 1);
        check("to itself", with(at(0, 0, House.code(2, 1, 1)), 0, 128), "1 1 1 0 0 0 0 0 0 0");
        check("from itself", with(at(0, 0, House.code(3, 1, 1)), 0, 128), "1 1 0 0 0 0 0 0 0 0");
        check("behind itself", with(at(0, 0, House.code(5, 1, 1)), 0, 255), "1 1 1 0 0 0 0 0 0 0");
    }

    private static void checkPair(int operation, int d, int s, String flags, int due) {
        check(operation + " of " + d + " and " + s, with(at(0, 0, House.code(operation, 0, 1)), d, s),
                "1 " + flags + " 0 0 0 " + due + " " + s + " 0 0");
    }

    private static void theNextByte() {
        Sentence.terms("6 d becomes the byte of the cell P, and P increases by 1;");
        check("at 61", at(61, 0, House.code(6, 3, 0), 255), "63 0 0 0 0 0 0 0 0 255");
        check("at 62", at(62, 0, House.code(6, 3, 0), 255), "0 0 0 0 0 0 0 0 0 255");
        check("at 63", at(63, 0, House.code(6, 3, 0), 254), "1 0 0 0 0 0 0 0 0 254");
    }

    private static void load() {
        Sentence.terms("7 d becomes the cell whose place is s;");
        int[] second = {0, 63, 64, 127, 128, 255};
        int[] cell = {0, 63, 0, 63, 0, 63};
        for (int i = 0; i < second.length; i++) {
            MicrostoreWorks works = with(at(20, 0, House.code(7, 0, 1)), 9, second[i]);
            works.setCell(cell[i], 200 + i);
            check("s is " + second[i], works, "21 0 0 0 0 0 " + (200 + i) + " " + second[i] + " 0 0");
        }
        check("both are the same register", with(at(20, 0, House.code(7, 1, 1)), 9, 20), "21 0 0 0 0 0 9 117 0 0");
    }

    private static void store() {
        Sentence.terms("8 the cell whose place is s becomes d;");
        int[] second = {0, 63, 64, 127, 128, 255};
        int[] cell = {0, 63, 0, 63, 0, 63};
        for (int i = 0; i < second.length; i++) {
            MicrostoreWorks works = with(at(20, 0, House.code(8, 0, 1)), 255, second[i]);
            check("s is " + second[i], works, "21 0 0 0 0 0 255 " + second[i] + " 0 0");
            Check.same("the cell is written", works.cell(cell[i]), 255);
        }
        MicrostoreWorks own = with(at(20, 0, House.code(8, 1, 1)), 9, 20);
        check("its own cell, both are the same register", own, "21 0 0 0 0 0 9 20 0 0");
        Check.same("written", own.cell(20), 20);
        MicrostoreWorks elsewhere = with(at(20, 0, House.code(8, 0, 1)), 255, 64);
        elsewhere.write(18, House.SECOND, 5, House.TO_A, House.WRITE, 'e', 0, 0);
        elsewhere.run(1);
        Check.same("the cell beside it is wrong", elsewhere.wrong(), 1);
    }

    private static void jumps() {
        Sentence.terms("9 to 11 the byte of the cell P is taken, and P increases by 1, and then P becomes this byte if"
                + " Z is 1 for 9, if C is 1 for 10, and always for 11;");
        int[] bytes = {0, 63, 64, 255};
        int[] places = {0, 63, 0, 63};
        for (int i = 0; i < 48; i++) {
            int flags = i / 4 % 4;
            int operation = 9 + i / 16;
            MicrostoreWorks works = withFlags(flags);
            House.load(works, 62, House.code(operation, 0, 0), bytes[i % 4]);
            works.start(62, 0, false);
            boolean jumps = operation == 11 || (operation == 9 ? flags / 2 : flags % 2) == 1;
            int due = jumps ? places[i % 4] : 0;
            Check.same("operation " + operation + " with " + flags, works.defined('P'), due);
            Check.same("Z stays", works.defined('Z'), flags / 2);
            Check.same("C stays", works.defined('C'), flags % 2);
            works.run(1);
            Check.same("done", works.part('P'), due);
            Check.same("right", works.wrong(), 0);
        }
        check("the byte is at 0", at(63, 0, House.code(11, 0, 0), 255), "63 0 0 0 0 0 0 0 0 0");
        check("not taken behind 0", at(63, 0, House.code(9, 0, 0), 255), "1 0 0 0 0 0 0 0 0 0");
    }

    private static MicrostoreWorks withFlags(int flags) {
        int[][] values = {{1, 1}, {200, 100}, {0, 0}, {128, 128}};
        MicrostoreWorks works = with(at(0, 0, House.code(2, 0, 1)), values[flags]);
        works.run(1);
        Check.same("flags", Bench.flags(works), flags);
        return works;
    }

    private static void loadAndGoOn() {
        Sentence.terms("12 d becomes the cell whose place is s, and then s increases by 1, also if both are the same"
                + " register;");
        int[] second = {0, 63, 64, 255};
        int[] cell = {0, 63, 0, 63};
        for (int i = 0; i < second.length; i++) {
            MicrostoreWorks works = with(at(20, 0, House.code(12, 0, 1)), 9, second[i]);
            works.setCell(cell[i], 200 + i);
            int behind = (second[i] + 1) % 256;
            check("s is " + second[i], works, "21 0 0 0 0 0 " + (200 + i) + " " + behind + " 0 0");
        }
        for (int value : new int[] {0, 254, 255}) {
            MicrostoreWorks works = with(at(20, 0, House.code(12, 1, 1)), 9, 50);
            works.setCell(50, value);
            check("the same register", works, "21 0 0 0 0 0 9 " + (value + 1) % 256 + " 0 0");
        }
    }

    private static void theOtherSet() {
        Sentence.terms("13 S becomes the other one;");
        check("of the set 0", at(5, 0, House.code(13, 0, 0)), "6 0 0 1 0 0 0 0 0 0");
        check("of the set 1", at(5, 1, House.code(1, 0, 0)), "6 0 0 0 0 0 0 0 0 0");
    }

    private static void theKeptPlace() {
        Sentence.terms("14 P becomes K, and I becomes 1;");
        for (int place : new int[] {0, 62, 63}) {
            for (int open = 0; open < 2; open++) {
                MicrostoreWorks works = at(place, 0, 0);
                works.start(place, 0, true);
                works.interrupt();
                works.run(1);
                works.setCell(30, House.code(14, 3, 3));
                works.start(30, 0, open == 1);
                int kept = (place + 1) % 64;
                check("K is " + kept, works, kept + " 0 0 0 1 " + kept + " 0 0 0 0");
            }
        }
        check("K at first", at(9, 0, House.code(14, 0, 0)), "0 0 0 0 1 0 0 0 0 0");
    }

    private static void theGate() {
        Sentence.terms("15 I becomes 1 if d is odd, and 0 otherwise.");
        for (int value : new int[] {0, 1, 2, 254, 255}) {
            for (int open = 0; open < 2; open++) {
                MicrostoreWorks works = with(at(9, 0, House.code(15, 0, 1)), value, value + 1 & 255);
                works.start(9, 0, open == 1);
                check("d is " + value, works,
                        "10 0 0 0 " + value % 2 + " 0 " + value + " " + (value + 1 & 255) + " 0 0");
            }
        }
    }

    private static void theSet1() {
        Sentence.terms("In the set 1, the operation o up to 14 does what the operation 14 minus o does in the set 0;");
        for (int operation = 0; operation < 15; operation++) {
            MicrostoreWorks one = with(at(62, 1, House.code(operation, 2, 1), 55), 1, 61, 200, 4);
            MicrostoreWorks zero = with(at(62, 0, House.code(14 - operation, 2, 1), 55), 1, 61, 200, 4);
            for (char part : "PZCIK0123".toCharArray()) {
                Check.same(part + " by " + operation, one.defined(part), zero.defined(part));
            }
            Check.same("S by " + operation, one.defined('S'), operation == 1 ? 0 : 1);
            one.run(1);
            Check.same(operation + " is judged so", one.wrong(), 0);
        }
        check("0 is 14", at(5, 1, 0x00), "0 0 0 1 1 0 0 0 0 0");
        check("14 is 0", with(at(5, 1, 0xEF), 1, 2, 3, 4), "6 0 0 1 0 0 1 2 3 4");
        check("7 is 7", with(at(5, 1, House.code(7, 0, 1)), 1, 5), "6 0 0 1 0 0 116 5 0 0");
    }

    private static void prefix() {
        Sentence.terms("with the operation 15, it is a prefix:");
        for (int low = 0; low < 16; low++) {
            check("0x" + low, with(at(5, 1, 0xF0 + low, House.code(13, 0, 1)), 1, 2), "7 0 0 1 0 0 1 1 0 0");
        }
        check("14 is none", with(at(5, 1, 0xEF, House.code(13, 0, 1)), 1, 2), "6 0 0 1 0 0 1 2 0 0");
        check("the set 0 knows none", with(at(5, 0, 0xF0, House.code(1, 0, 1)), 1, 2), "6 0 0 0 1 0 1 2 0 0");
    }

    private static void byteBehindAPrefix() {
        Sentence.terms("the next byte is taken as X in the same way, and first and second register are exchanged;");
        for (int place : new int[] {0, 61, 62, 63}) {
            int behind = (place + 2) % 64;
            check("at " + place, with(at(place, 1, 0xF0, House.code(13, 3, 2)), 1, 2, 3, 4),
                    behind + " 0 0 1 0 0 1 2 4 4");
        }
        check("a byte behind it", at(62, 1, 0xF0, House.code(8, 1, 2), 99), "1 0 0 1 0 0 0 0 99 0");
    }

    private static void severalPrefixes() {
        Sentence.terms("prefixes can follow one another, each one exchanges once more;");
        for (int prefixes = 0; prefixes <= 12; prefixes++) {
            MicrostoreWorks works = with(at(60, 1), 1, 2, 3, 4);
            for (int i = 0; i < prefixes; i++) {
                works.setCell((60 + i) % 64, 0xFF - i);
            }
            works.setCell((60 + prefixes) % 64, House.code(13, 3, 2));
            int behind = (61 + prefixes) % 64;
            check(prefixes + " of them", works, behind + " 0 0 1 0 0 1 2 " + (prefixes % 2 == 0 ? "3 3" : "4 4"));
        }
    }

    /** All cells are prefixes but those behind so many of them. */
    private static MicrostoreWorks prefixed(int place, int prefixes, int last) {
        MicrostoreWorks works = with(House.make(), 1, 2, 3, 4);
        for (int i = 0; i < 64; i++) {
            works.setCell((place + i) % 64, i < prefixes ? 0xF4 : last);
        }
        works.start(place, 1, false);
        return works;
    }

    private static void manyPrefixes() {
        Sentence.terms("behind 64 of them, the instruction is undefined.");
        for (int place : new int[] {0, 5, 63}) {
            MicrostoreWorks most = prefixed(place, 63, House.code(13, 3, 2));
            Check.same("P behind 63", most.defined('P'), place);
            Check.same("exchanged 63 times", most.defined('2'), 4);
            Check.same("200 micro-steps", most.run(1), 0);
            Check.same("it ends", most.run(1), 1);
            Check.same("right", most.wrong(), 0);
            Refusal.check("64 at " + place, () -> prefixed(place, 64, 0), Refusal.UNSUPPORTED, it -> it.defined('P'));
        }
        MicrostoreWorks operand = prefixed(9, 63, House.code(8, 3, 2));
        Check.same("the byte behind 63 is the first one again", operand.defined('2'), 0xF4);
    }

    // ---- judging

    /** The operation 0 of the set 0 at 40, which begins with registers 200 and 60; X is 4; the word at 3 ends it. */
    private static MicrostoreWorks judged(int drive, int combine, int listen, int memory, char order, int more) {
        MicrostoreWorks works = with(at(40, 0, 4), 200, 60);
        works.setCell(9, 70);
        works.write(3, drive, combine, listen, memory, order, 0, more);
        works.setConstant(3, 9);
        works.run(1);
        Check.same("it ends", works.ended(), 1);
        return works;
    }

    private static void judgedWhenItEnds() {
        Sentence.terms("When an instruction ends, it is judged:");
        for (char order : "eskgq".toCharArray()) {
            MicrostoreWorks works = at(40, 0, 0);
            works.write(0, House.CONSTANT, 0, House.TO_FIRST, 0, order, 0, 0);
            works.setConstant(0, 1);
            works.step(1);
            Check.same("wrong with '" + order + "'", works.wrong(), order == 'q' ? 0 : 1);
        }
        MicrostoreWorks works = at(40, 0, 0);
        works.write(3, House.CONSTANT, 0, House.TO_FIRST, 0, 'n', 4, 0);
        works.setConstant(3, 1);
        works.step(4);
        Check.same("not ahead of its end", works.wrong(), 0);
        works.reset();
        Check.same("not where it is taken back", works.wrong(), 0);
        works.start(40, 0, true);
        works.write(3, 0, 0, 0, 0, 'e', 0, 0);
        works.interrupt();
        works.run(1);
        Check.same("ahead of the interrupt", works.wrong(), 0);
        Check.same("which is taken", works.taken(), 1);
    }

    private static void rightOrWrong() {
        Sentence.terms("it is right if all visible parts and cells are what its definition makes of those that were"
                + " kept, and wrong otherwise, also if it is undefined.");
        Check.same("nothing", judged(64, 0, 0, 0, 'e', 0).wrong(), 0);
        Check.same("hidden parts", judged(64, 0, 1 + 2 + 4 + 8 + 128, 0, 'e', 0).wrong(), 0);
        Check.same("flags as they were", judged(64, 0, 0, 0, 'e', 1).wrong(), 0);
        Check.same("Z", judged(0, 0, 0, 0, 'e', 1).wrong(), 1);
        Check.same("C", judged(0, 6, 0, 0, 'e', 1).wrong(), 1);
        Check.same("P", judged(64, 0, 16, 0, 'e', 0).wrong(), 1);
        Check.same("P as it was", judged(8, 0, 16, 0, 'e', 0).wrong(), 0);
        Check.same("first register", judged(64, 0, 32, 0, 'e', 0).wrong(), 1);
        Check.same("first register as it was", judged(16, 0, 32, 0, 'e', 0).wrong(), 0);
        Check.same("second register", judged(64, 0, 64, 0, 'e', 0).wrong(), 1);
        Check.same("S", judged(64, 0, 0, 0, 's', 0).wrong(), 1);
        Check.same("I", judged(64, 0, 0, 0, 'g', 0).wrong(), 1);
        Check.same("I as it was", judged(0, 0, 0, 0, 'g', 0).wrong(), 0);
        Check.same("a cell", judged(64, 0, 4, 2, 'e', 0).wrong(), 1);
        MicrostoreWorks same = at(40, 0, 4);
        same.setCell(9, 4);
        same.write(3, 64, 0, 4, 2, 'e', 0, 0);
        same.setConstant(3, 9);
        same.run(1);
        Check.same("a cell written as it was", same.wrong(), 0);
        checkNotWritten();
        MicrostoreWorks all = new MicrostoreWorks();
        all.write(0, House.T, 5, House.TO_T + House.TO_A, House.WRITE, 'n', 0, 0);
        all.step(100);
        all.write(0, House.P, 5, House.TO_P, 0, 'e', 0, 0);
        all.step(1);
        Check.same("it ends", all.ended(), 1);
        Check.same("all cells written as they were", all.wrong(), 0);
        MicrostoreWorks undefined = prefixed(5, 64, 0);
        undefined.write(0, House.P, 0, 0, 0, 'e', 0, 0);
        undefined.run(1);
        Check.same("undefined", undefined.wrong(), 1);
        MicrostoreWorks most = prefixed(5, 63, 0xE0);
        most.write(0, House.P, 0, 0, 0, 'e', 0, 0);
        most.run(1);
        Check.same("63 prefixes, nothing to do, and nothing done", most.wrong(), 0);
    }

    private static void checkNotWritten() {
        for (int value : new int[] {8, 9}) {
            MicrostoreWorks works = with(at(40, 0, House.code(8, 0, 1)), 9, 63);
            works.setCell(63, value);
            works.setEntry(0, 8, House.ROUTINES[0]);
            works.run(1);
            Check.same("a cell that is not written", works.wrong(), value == 9 ? 0 : 1);
        }
    }

    private static void absentPagesDoNotMatter() {
        Sentence.terms("Absent pages do not matter for this.");
        for (int absent = 0; absent < 2; absent++) {
            MicrostoreWorks works = with(at(63, 0, House.code(7, 0, 1)), 77, 31);
            works.setCell(31, 77);
            works.write(0, House.P, 5, House.TO_P, 0, 'e', 0, 0);
            works.setPage(3, absent == 0);
            works.setPage(1, absent == 0);
            works.run(1);
            Check.same("it ends", works.ended(), 1);
            Check.same("right, as the register is the cell already", works.wrong(), 0);
            works.start(63, 0, false);
            works.setCell(31, 78);
            works.run(1);
            Check.same("wrong, as it is not", works.wrong(), 1);
        }
    }

    // ---- late flags

    private static void flagsAreKeptOnly() {
        Sentence.terms("A word that tells the flags only keeps by what they can be found.");
        MicrostoreWorks works = new MicrostoreWorks();
        Bench.put(works, 0, 255, House.TO_T);
        works.write(1, House.CONSTANT, 1, House.TO_T, 0, 'n', 2, 1);
        works.setConstant(1, 1);
        Bench.put(works, 2, 7, House.TO_T);
        works.step(3);
        works.isSound();
        works.defined('Z');
        Check.same("not found", works.found(), 0);
        Check.same("by T and the bus as they were", Bench.flags(works), 3);
        Check.same("found", works.found(), 1);
    }

    private static MicrostoreWorks told() {
        MicrostoreWorks works = new MicrostoreWorks();
        Bench.putFlags(works, 0, 1, 1);
        works.step(2);
        return works;
    }

    private static void flagsAreFound() {
        Sentence.terms("They are found, both at once, when an order 'o' tests Z or C, when an instruction is judged,"
                + " and when part() asks for one of them, if a word has told them since they were found last.");
        for (int tests = 0; tests < 8; tests++) {
            MicrostoreWorks works = told();
            works.write(2, 0, 0, 0, 0, 'o', 0, 2 * tests);
            works.step(1);
            Check.same("tests " + tests, works.found(), tests % 4 == 0 ? 0 : 1);
        }
        for (char order : "neskgq".toCharArray()) {
            MicrostoreWorks works = told();
            works.write(2, 0, 0, 0, 0, order, 0, 0);
            works.step(1);
            Check.same("judged with '" + order + "'", works.found(), "nq".indexOf(order) >= 0 ? 0 : 1);
        }
        for (char part : Bench.PARTS.toCharArray()) {
            MicrostoreWorks works = told();
            works.part(part);
            Check.same("asked for " + part, works.found(), part == 'Z' || part == 'C' ? 1 : 0);
        }
        MicrostoreWorks works = told();
        Check.same("both", Bench.flags(works), 3);
        Check.same("at once", works.found(), 1);
        works.write(2, 0, 0, 0, 0, 'o', 8, 6);
        works.write(11, 0, 0, 0, 0, 'e', 0, 0);
        works.step(2);
        Check.same("none has told them since", works.found(), 1);
        works.write(0, 0, 0, 0, 0, 'n', 1, 1);
        works.write(1, 0, 0, 0, 0, 'o', 2, 7);
        works.step(2);
        Check.same("told twice, found once", works.found(), 2);
        Check.same("the word that tests has told them", works.next(), 3);
        Check.same("none told", new MicrostoreWorks().part('Z'), 0);
    }

    private static void flagsTakenBack() {
        Sentence.terms("When an instruction is taken back, they are as they were kept, and are not to be found.");
        for (char way : "rfql".toCharArray()) {
            for (int found = 0; found < 2; found++) {
                MicrostoreWorks works = new MicrostoreWorks();
                Bench.putFlags(works, 0, 0, 1);
                works.write(2, 0, 0, 0, 0, 'e', 0, 0);
                works.run(1);
                Bench.putFlags(works, 0, 1, 0);
                works.write(2, 0, 0, 0, way == 'f' ? 1 : 0, way == 'q' ? 'q' : 'n', way == 'l' ? 9 : 2, 0);
                works.setPage(0, false);
                works.step(2);
                if (found == 1) {
                    Check.same("found", Bench.flags(works), 2);
                }
                works.step(1);
                if (way == 'r') {
                    works.reset();
                } else {
                    works.step(1);
                }
                Check.same("as they were kept, " + way, Bench.flags(works), 1);
                Check.same("not to be found, " + way, works.found(), 1 + found);
            }
        }
    }

    // ---- exceptions

    private static void exceptionsChangeNothing() {
        Sentence.terms("A method that throws an exception changes nothing.");
        MicrostoreWorks works = Scene.begun();
        int refused = 0;
        Check.Call[] calls = {
            () -> works.write(0, 0, 0, 0, 0, 'e', 0, 16), () -> works.patch(64, 63, 0), () -> works.setConstant(63, 0),
            () -> works.reason(0, 0, 0, 'x', 0), () -> works.reserve(3), () -> works.setEntry(0, 0, 80),
            () -> works.setCatch(6, -1), () -> works.setCell(0, 1), () -> works.setRegister(0, 1),
            () -> works.start(0, 0, false), () -> works.setPage(4, true), () -> works.setWait(10),
            () -> works.setVector(64), () -> works.step(0), () -> works.run(0), () -> works.cell(64),
            () -> works.register(4), () -> works.part('z'), () -> works.unset(80), () -> works.reached(80),
            () -> works.defined('T'), () -> works.cyclesOf(2, 0),
        };
        for (Check.Call call : calls) {
            refused += Check.nameOfThrown(call).equals("nothing") ? 0 : 1;
        }
        Check.same("all are refused", refused, calls.length);
        Check.same("as before", Look.at(works), Look.at(Scene.begun()));
        MicrostoreWorks used = Scene.begun();
        Check.nameOfThrown(() -> used.write(0, 0, 0, 0, 0, 'e', 0, 16));
        Check.nameOfThrown(() -> used.setWait(10));
        Check.nameOfThrown(() -> used.setVector(64));
        Check.nameOfThrown(() -> used.setCatch(6, -1));
        Check.nameOfThrown(() -> used.setEntry(0, 0, 80));
        Check.nameOfThrown(() -> used.reserve(3));
        Check.nameOfThrown(() -> used.setPage(4, true));
        Check.same("and later, too", Look.into(used), Look.into(Scene.begun()));
    }

    private static void firstOfSeveralExceptions() {
        Sentence.terms("If several exceptions of a method apply, the one that is listed first is thrown.");
        Refusal.check("write, all three", Scene::begun, Refusal.INDEX, it -> it.write(64, 64, 0, 0, 0, 'o', 80, 0));
        Refusal.check("write, two", Scene::begun, Refusal.ARGUMENT, it -> it.write(0, 64, 0, 0, 0, 'o', 80, 0));
        Refusal.check("write, more", Scene::begun, Refusal.ARGUMENT, it -> it.write(0, 0, 0, 0, 0, 'e', 0, 16));
        Refusal.check("write, combine", Scene::begun, Refusal.ARGUMENT, it -> it.write(0, 64, 8, 0, 0, 'o', 0, 0));
        Refusal.check("write, drive", Scene::begun, Refusal.ARGUMENT, it -> it.write(0, 192, 0, 0, 0, 'o', 0, 0));
        Refusal.check("write, listen", Scene::begun, Refusal.ARGUMENT, it -> it.write(0, 64, 0, 256, 0, 'o', 0, 0));
        Refusal.check("write, memory", Scene::begun, Refusal.ARGUMENT, it -> it.write(0, 64, 0, 0, 3, 'o', 0, 0));
        Refusal.check("write, order", Scene::begun, Refusal.ARGUMENT, it -> it.write(0, 0, 0, 96, 0, 'x', 0, 0));
        Refusal.check("patch, address", Scene::begun, Refusal.INDEX, it -> it.patch(63, 62, 80));
        Refusal.check("patch, from", Scene::begun, Refusal.INDEX, it -> it.patch(65, 80, 80));
        Refusal.check("patch, two", Scene::begun, Refusal.ARGUMENT, it -> it.patch(65, 62, 80));
        Refusal.check("setConstant, three", Scene::begun, Refusal.INDEX, it -> it.setConstant(80, 256));
        Refusal.check("setConstant, two", Scene::begun, Refusal.ARGUMENT, it -> it.setConstant(62, 256));
        Refusal.check("setEntry", Scene::begun, Refusal.INDEX, it -> it.setEntry(0, 16, 80));
        Refusal.check("setCatch, index", Scene::begun, Refusal.INDEX, it -> it.setCatch(80, -2));
        Refusal.check("setCatch, none to drop", Scene::begun, Refusal.INDEX, it -> it.setCatch(-1, -1));
        Refusal.check("setCatch, four", BoundariesOfDefinitions::withFourCatches, Refusal.INDEX,
                it -> it.setCatch(80, 64));
        Refusal.check("setCatch, four, to", BoundariesOfDefinitions::withFourCatches, Refusal.ARGUMENT,
                it -> it.setCatch(7, 80));
        Refusal.check("setCatch, four, drop", BoundariesOfDefinitions::withFourCatches, Refusal.NO_SUCH,
                it -> it.setCatch(7, -1));
        Refusal.check("setCell, three", Scene::begun, Refusal.INDEX, it -> it.setCell(64, 256));
        Refusal.check("setCell, two", Scene::begun, Refusal.ARGUMENT, it -> it.setCell(0, 256));
        Refusal.check("setRegister, three", Scene::begun, Refusal.INDEX, it -> it.setRegister(4, 256));
        Refusal.check("setRegister, two", Scene::begun, Refusal.ARGUMENT, it -> it.setRegister(0, 256));
        Refusal.check("start, place", Scene::begun, Refusal.ARGUMENT, it -> it.start(64, 0, true));
        Refusal.check("start, set", Scene::begun, Refusal.ARGUMENT, it -> it.start(0, 2, true));
        Refusal.check("defined", () -> prefixed(0, 64, 0), Refusal.ARGUMENT, it -> it.defined('T'));
    }

    static MicrostoreWorks withFourCatches() {
        MicrostoreWorks works = Scene.begun();
        works.setCatch(0, 64);
        works.setCatch(79, 79);
        works.setCatch(70, 70);
        return works;
    }
}
