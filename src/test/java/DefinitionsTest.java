/** Promise 30, and what each instruction of both sets must do: by defined(), and by micro-words that do it. */
public final class DefinitionsTest {
    private static final Class<IllegalArgumentException> ARGUMENT = IllegalArgumentException.class;
    private static final Class<UnsupportedOperationException> UNSUPPORTED = UnsupportedOperationException.class;

    public static void main(String[] args) {
        promise30EachOperation();
        promise30Arithmetic();
        promise30Jumps();
        promise30Memory();
        promise30SetsAndPrefixes();
        promise30Kept();
        promise30Refuses();
        bothSetsAgreeWithTheHouse();
        Check.finish();
    }

    private static MicrostoreWorks at(int place, int set, int... bytes) {
        MicrostoreWorks works = House.make();
        works.start(place, set, false);
        House.load(works, place, bytes);
        return works;
    }

    /** What is defined for P, Z, C, S, I, K and the registers, as one text. */
    private static String all(MicrostoreWorks works) {
        StringBuilder text = new StringBuilder();
        for (char part : "PZCSIK0123".toCharArray()) {
            text.append(text.length() == 0 ? "" : " ").append(works.defined(part));
        }
        return text.toString();
    }

    /** The instruction does what is due, and the house's micro-words do the same. */
    private static void check(String what, MicrostoreWorks works, String due) {
        Check.same(what, all(works), due);
        works.run(1);
        Check.same(what + " ended", works.ended(), 1);
        Check.same(what + " right", works.wrong(), 0);
        StringBuilder text = new StringBuilder();
        for (char part : "PZCSIK".toCharArray()) {
            text.append(works.part(part)).append(' ');
        }
        text.append(works.register(0)).append(' ').append(works.register(1)).append(' ');
        text.append(works.register(2)).append(' ').append(works.register(3));
        Check.same(what + " done", text.toString(), due);
    }

    private static MicrostoreWorks withRegisters(MicrostoreWorks works, int... values) {
        for (int i = 0; i < values.length; i++) {
            works.setRegister(i, values[i]);
        }
        return works;
    }

    private static void promise30EachOperation() {
        check("nothing", withRegisters(at(63, 0, 0x0F), 1, 2, 3, 4), "0 0 0 0 0 0 1 2 3 4");
        check("d becomes s", withRegisters(at(0, 0, House.code(1, 3, 1)), 1, 2, 3, 4), "1 0 0 0 0 0 1 2 3 2");
        check("a byte", withRegisters(at(62, 0, House.code(6, 2, 1), 250), 1, 2, 3, 4), "0 0 0 0 0 0 1 2 250 4");
        check("the other set", at(7, 0, House.code(13, 0, 0)), "8 0 0 1 0 0 0 0 0 0");
        check("I with odd d", withRegisters(at(7, 0, House.code(15, 1, 0)), 2, 3), "8 0 0 0 1 0 2 3 0 0");
        MicrostoreWorks works = withRegisters(at(7, 0, House.code(15, 0, 1)), 2, 3);
        works.start(7, 0, true);
        check("I with even d", works, "8 0 0 0 0 0 2 3 0 0");
        MicrostoreWorks back = at(7, 0, House.code(0, 0, 0));
        back.start(7, 0, true);
        back.interrupt();
        back.run(1);
        back.setCell(48, House.code(14, 0, 0));
        Check.same("P becomes K", all(back), "8 0 0 0 1 8 0 0 0 0");
        back.run(1);
        Check.same("and does", back.part('P') * 2 + back.part('I'), 17);
        Check.same("right", back.wrong(), 0);
    }

    private static void promise30Arithmetic() {
        int plus = House.code(2, 0, 1);
        check("plus", withRegisters(at(0, 0, plus), 100, 155), "1 0 0 0 0 0 255 155 0 0");
        check("plus to 256", withRegisters(at(0, 0, plus), 100, 156), "1 1 1 0 0 0 0 156 0 0");
        check("plus itself", withRegisters(at(0, 0, House.code(2, 1, 1)), 0, 129), "1 0 1 0 0 0 0 2 0 0");
        int minus = House.code(3, 0, 1);
        check("minus", withRegisters(at(0, 0, minus), 5, 3), "1 0 0 0 0 0 2 3 0 0");
        check("minus to 0", withRegisters(at(0, 0, minus), 5, 5), "1 1 0 0 0 0 0 5 0 0");
        check("minus below 0", withRegisters(at(0, 0, minus), 5, 6), "1 0 1 0 0 0 255 6 0 0");
        int both = House.code(4, 0, 1);
        check("bits of both", withRegisters(at(0, 0, both), 0xCC, 0xAA), "1 0 0 0 0 0 136 170 0 0");
        check("no bits of both", withRegisters(at(0, 0, both), 0xF0, 0x0F), "1 1 0 0 0 0 0 15 0 0");
        int more = House.code(5, 1, 0);
        check("plus 1", withRegisters(at(0, 0, more), 255, 254), "1 0 0 0 0 0 255 255 0 0");
        check("plus 1 to 256", withRegisters(at(0, 0, more), 0, 255), "1 1 1 0 0 0 0 0 0 0");
        MicrostoreWorks works = withRegisters(at(0, 0, more, House.code(1, 2, 3), minus), 3, 255);
        works.run(2);
        Check.same("flags stay", works.part('Z') * 2 + works.part('C'), 3);
        works.run(1);
        Check.same("flags change", works.part('Z') * 2 + works.part('C'), 0);
        Check.same("right", works.wrong(), 0);
    }

    private static void promise30Jumps() {
        for (int flags = 0; flags < 4; flags++) {
            for (int operation = 9; operation <= 11; operation++) {
                boolean jumps = operation == 11 || operation == 9 && flags / 2 == 1
                        || operation == 10 && flags % 2 == 1;
                MicrostoreWorks works = withFlags(flags);
                int place = works.part('P');
                works.setCell(place, House.code(operation, 0, 0));
                works.setCell(place + 1, 0xC0 + 33);
                Check.same("jump", works.defined('P'), jumps ? 33 : place + 2);
                works.run(1);
                Check.same("jumped", works.part('P'), jumps ? 33 : place + 2);
                Check.same("Z stays", works.part('Z'), flags / 2);
                Check.same("C stays", works.part('C'), flags % 2);
                Check.same("right", works.wrong(), 0);
            }
        }
    }

    /** A house whose flags are 2 times Z plus C, by one instruction. */
    private static MicrostoreWorks withFlags(int flags) {
        int[][] values = {{1, 1}, {200, 100}, {0, 0}, {128, 128}};
        MicrostoreWorks works = withRegisters(at(0, 0, House.code(2, 0, 1)), values[flags]);
        works.run(1);
        Check.same("flags", works.part('Z') * 2 + works.part('C'), flags);
        return works;
    }

    private static void promise30Memory() {
        MicrostoreWorks load = withRegisters(at(0, 0, House.code(7, 0, 1)), 9, 0xC0 + 40);
        load.setCell(40, 123);
        check("a cell", load, "1 0 0 0 0 0 123 232 0 0");
        MicrostoreWorks store = withRegisters(at(0, 0, House.code(8, 0, 1)), 9, 0x40 + 40);
        check("into a cell", store, "1 0 0 0 0 0 9 104 0 0");
        Check.same("written", store.cell(40), 9);
        MicrostoreWorks go = withRegisters(at(0, 0, House.code(12, 0, 1)), 9, 255);
        go.setCell(63, 77);
        check("a cell, and s goes on", go, "1 0 0 0 0 0 77 0 0 0");
        MicrostoreWorks same = withRegisters(at(0, 0, House.code(12, 1, 1)), 9, 50);
        same.setCell(50, 255);
        check("a cell, and both are the same register", same, "1 0 0 0 0 0 9 0 0 0");
        MicrostoreWorks lost = withRegisters(at(0, 0, House.code(8, 0, 1)), 9, 40);
        lost.setEntry(0, 8, House.ROUTINES[0]);
        lost.run(1);
        Check.same("not written is wrong", lost.wrong(), 1);
        MicrostoreWorks other = withRegisters(at(0, 0, House.code(8, 0, 1)), 9, 40);
        other.write(18, House.SECOND, 5, House.TO_A, House.WRITE, 'e', 0, 0);
        other.run(1);
        Check.same("written elsewhere is wrong", other.wrong(), 1);
        MicrostoreWorks equal = withRegisters(at(0, 0, House.code(8, 0, 1)), 9, 40);
        equal.setEntry(0, 8, House.ROUTINES[0]);
        equal.setCell(40, 9);
        equal.run(1);
        Check.same("what is there already need not be written", equal.wrong(), 0);
        MicrostoreWorks more = at(0, 0, 0);
        more.write(3, 64, 0, House.TO_A, House.WRITE, 'e', 0, 0);
        more.setConstant(3, 33);
        more.run(1);
        Check.same("written as it was, is right", more.wrong(), 0);
        more.setCell(1, 3);
        more.run(1);
        Check.same("written otherwise is wrong", more.wrong(), 1);
    }

    private static void promise30SetsAndPrefixes() {
        for (int operation = 0; operation < 15; operation++) {
            MicrostoreWorks one = at(20, 1, House.code(operation, 2, 1), 55);
            MicrostoreWorks zero = at(20, 0, House.code(14 - operation, 2, 1), 55);
            withRegisters(one, 1, 61, 200, 4);
            withRegisters(zero, 1, 61, 200, 4);
            for (char part : "PZCIK0123".toCharArray()) {
                Check.same("operation " + operation + " of the set 1", one.defined(part), zero.defined(part));
            }
            Check.same("S", one.defined('S'), operation == 1 ? 0 : 1);
            one.run(1);
            Check.same("it ends", one.ended(), 1);
            Check.same("it is right", one.wrong(), 0);
        }
        check("one prefix", withRegisters(at(62, 1, 0xF1, House.code(13, 0, 1)), 1, 2, 3, 4), "0 0 0 1 0 0 1 1 3 4");
        check("two prefixes", withRegisters(at(62, 1, 0xF1, 0xFF, House.code(13, 0, 1)), 1, 2, 3, 4),
                "1 0 0 1 0 0 2 2 3 4");
        check("the set 0 knows no prefix", at(0, 0, 0xF0), "1 0 0 0 0 0 0 0 0 0");
        checkManyPrefixes(63, true);
        checkManyPrefixes(64, false);
    }

    private static void checkManyPrefixes(int count, boolean isDefined) {
        MicrostoreWorks works = withRegisters(at(0, 1), 1, 2, 3, 4);
        for (int i = 0; i < 64; i++) {
            works.setCell((i + 5) % 64, i < count ? 0xF0 : House.code(13, 3, 2));
        }
        works.start(5, 1, false);
        Check.same("prefixes " + count, Check.nameOfThrown(() -> works.defined('P')),
                isDefined ? "nothing" : "UnsupportedOperationException");
        if (isDefined) {
            Check.same("P comes round", works.defined('P'), 5);
            Check.same("exchanged 63 times", works.defined('2'), 4);
            works.run(1);
            works.run(1);
            Check.same("it ends", works.ended(), 1);
            Check.same("right", works.wrong(), 0);
        } else {
            works.write(37, 0, 0, 0, 0, 'e', 0, 0);
            works.run(1);
            Check.same("it ends", works.ended(), 1);
            Check.same("undefined is wrong", works.wrong(), 1);
            Check.same("where it began", works.firstWrong(), 5);
        }
    }

    private static void promise30Kept() {
        MicrostoreWorks works = withRegisters(at(0, 0, House.code(2, 0, 0)), 130);
        works.step(4);
        works.write(6, 0, 0, 32, 0, 'n', 6, 1);
        works.step(1);
        Check.same("the register has changed", works.register(0), 0);
        Check.same("from what was kept", works.defined('0'), 4);
        Check.same("and the flags", works.defined('Z') * 2 + works.defined('C'), 1);
        Check.same("and P", works.defined('P'), 1);
        Check.same("nothing is found for it", works.found(), 0);
        works.setPage(0, false);
        Check.same("absent pages do not matter", works.defined('0'), 4);
        works.reset();
        works.setRegister(0, 3);
        works.setCell(0, House.code(5, 0, 0));
        Check.same("what calls set is kept, too", works.defined('0'), 4);
        Check.same("and the cell", works.defined('C'), 0);
        works.start(1, 0, true);
        Check.same("and the place", works.defined('P'), 2);
        Check.same("and the gate", works.defined('I'), 1);
    }

    /** All cells hold the prefix. */
    private static MicrostoreWorks prefixes() {
        MicrostoreWorks works = at(0, 1);
        for (int i = 0; i < 64; i++) {
            works.setCell(i, 0xF0);
        }
        return works;
    }

    private static void promise30Refuses() {
        Refusal.check("undefined", DefinitionsTest::prefixes, UNSUPPORTED, works -> works.defined('P'));
        Refusal.check("undefined register", DefinitionsTest::prefixes, UNSUPPORTED, works -> works.defined('3'));
        for (char part : "TUADXE4/p \0".toCharArray()) {
            Refusal.check("no part " + part, DefinitionsTest::prefixes, ARGUMENT, works -> works.defined(part));
        }
        Refusal.check("no part 304", Scene::begun, ARGUMENT, works -> works.defined((char) (256 + '0')));
        MicrostoreWorks works = prefixes();
        works.start(0, 0, false);
        Check.same("defined in the set 0", works.defined('I'), 0);
    }

    /** A long program of all bytes: each instruction that the house does is right. */
    private static void bothSetsAgreeWithTheHouse() {
        for (int seed = 1; seed <= 60; seed++) {
            MicrostoreWorks works = House.make();
            int value = seed;
            for (int i = 0; i < 64; i++) {
                value = (value * 1103515245 + 12345) & 0x7FFFFFFF;
                works.setCell(i, (value >> 12) & 255);
            }
            works.start(seed % 64, seed % 2, true);
            for (int i = 0; i < 12; i++) {
                if (i % 3 == 1) {
                    works.interrupt();
                }
                works.setWait(i % 10);
                works.run(20);
                works.setPage(i % 4, i % 5 != 0);
                works.setPage((i + 1) % 4, true);
            }
            Check.same("many ended", works.ended() > 10 || works.state() != 'r', true);
            Check.same("all right", works.wrong(), 0);
            Check.same("sound", works.isSound(), true);
        }
    }
}
