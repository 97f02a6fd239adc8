/** The boundaries that the promises 1 to 9 name. */
final class BoundariesOfStore {
    static void run() {
        promise1New();
        promise2InPlace();
        promise2Constant();
        promise2Address();
        promise2Numbers();
        promise2Order();
        promise2More();
        promise2Returns();
        promise2Refuses();
        promise3Copy();
        promise3Arguments();
        promise3Returns();
        promise3Refuses();
        promise4Arguments();
        promise4Returns();
        promise4Refuses();
        promise5Arguments();
        promise5Returns();
        promise5Refuses();
        promise6WithoutWords();
        promise6TheLowest();
        promise6Number();
        promise6None();
        promise7Free();
        promise8Arguments();
        promise8Returns();
        promise8Refuses();
        promise9InPlace();
        promise9Arguments();
        promise9Returns();
        promise9RefusesArguments();
        promise9RefusesToDrop();
        promise9RefusesAFifth();
    }

    /** All 80 addresses have words: from 0 to 63 ones that end, in the writable store ones that go on at 0. */
    static MicrostoreWorks full() {
        MicrostoreWorks works = new MicrostoreWorks();
        for (int address = 0; address < 64; address++) {
            works.write(address, House.CONSTANT, 0, House.TO_T, 0, address == 1 ? 'n' : 'e', 0, 0);
        }
        for (int address = 64; address < 80; address++) {
            works.patch(address, 1, 0);
        }
        return works;
    }

    private static void promise1New() {
        Sentence.promise(1, "Creates a processor without micro-words, entries and catches, at cycle 0, with a wait of"
                + " 0.");
        MicrostoreWorks works = new MicrostoreWorks();
        Check.same("cycles", works.cycles(), 0);
        Check.same("wait", works.setWait(9), 0);
        for (int i = 0; i < 32; i++) {
            Check.same("entry " + i, works.setEntry(i / 16, i % 16, 0), -1);
        }
        for (int i = 0; i < 80; i++) {
            int address = i;
            Check.same("word " + i, works.reached(i), 0);
            Check.same("catch " + i, Check.nameOfThrown(() -> works.setCatch(address, -1)), "NoSuchElementException");
        }
        Check.same("the first word", works.write(0, 0, 0, 0, 0, 'e', 0, 0), 1);
        Check.same("the first catch", works.setCatch(0, 64), 1);
    }

    // ---- write

    private static void promise2InPlace() {
        Sentence.promise(2, "Writes a micro-word, in place of another one.");
        MicrostoreWorks works = new MicrostoreWorks();
        works.setCell(63, 77);
        Check.same("first", works.write(0, House.U, 6, House.TO_T + House.TO_A, House.READ, 'o', 8, 15), 1);
        works.step(1);
        Check.same("T", works.part('T'), 255);
        Check.same("D", works.part('D'), 77);
        Check.same("next", works.next(), 10);
        works.reset();
        Check.same("in its place", works.write(0, House.T, 0, House.TO_U, 0, 'n', 9, 0), 1);
        works.step(1);
        Check.same("drivers", works.drivers(), House.T);
        Check.same("the bus", works.part('U'), 255);
        Check.same("T", works.part('T'), 255);
        Check.same("next", works.next(), 9);
        Check.same("no more flags are told", works.found(), 1);
    }

    private static void promise2Constant() {
        Sentence.promise(2, "Its constant is 0.");
        MicrostoreWorks works = new MicrostoreWorks();
        works.write(63, 64, 0, 0, 0, 'e', 0, 0);
        Check.same("of the first", works.setConstant(63, 255), 0);
        works.write(63, 64, 0, 0, 0, 'e', 0, 0);
        Check.same("of the one in its place", works.setConstant(63, 255), 0);
    }

    private static void promise2Address() {
        Sentence.promise(2, "`address`: the address, 0 to 63");
        Refusal.range(Scene::begun, 0, 63, Refusal.INDEX, (it, value) -> it.write(value, 0, 0, 0, 0, 'e', 0, 0));
    }

    private static void promise2Numbers() {
        Sentence.promise(2, "`drive`: the parts that drive, 0 to 127");
        Refusal.range(Scene::begun, 0, 127, Refusal.ARGUMENT, (it, value) -> it.write(0, value, 0, 0, 0, 'e', 0, 0));
        Sentence.promise(2, "`combine`: the combination, 0 to 7");
        Refusal.range(Scene::begun, 0, 7, Refusal.ARGUMENT, (it, value) -> it.write(0, 0, value, 0, 0, 'e', 0, 0));
        Sentence.promise(2, "`listen`: the parts that listen, 0 to 255");
        for (int listen = 0; listen < 256; listen++) {
            int value = listen;
            MicrostoreWorks works = Scene.begun();
            Check.same("" + value, Check.nameOfThrown(() -> works.write(0, 0, 0, value, 0, 'e', 0, 0)),
                    (value & 96) == 96 ? "UnsupportedOperationException" : "nothing");
        }
        Refusal.outside(Scene::begun, 0, 255, Refusal.ARGUMENT, (it, value) -> it.write(0, 0, 0, value, 0, 'e', 0, 0));
        Sentence.promise(2, "`memory`: the memory action, 0 to 2");
        Refusal.range(Scene::begun, 0, 2, Refusal.ARGUMENT, (it, value) -> it.write(0, 0, 0, 0, value, 'e', 0, 0));
        Sentence.promise(2, "`number`: the number, 0 to 79");
        Refusal.range(Scene::begun, 0, 79, Refusal.ARGUMENT, (it, value) -> it.write(0, 0, 0, 0, 0, 'e', value, 0));
    }

    private static void promise2Order() {
        Sentence.promise(2, "`order`: the order, 'n', 'o', 'c', 'r', 'd', 'p', 'e', 's', 'k', 'g' or 'q'");
        for (int i = 0; i < 65536; i++) {
            char order = (char) i;
            MicrostoreWorks works = new MicrostoreWorks();
            Check.same("order " + i, Check.nameOfThrown(() -> works.write(0, 0, 0, 0, 0, order, 0, 0)),
                    Bench.ORDERS.indexOf(order) >= 0 ? "nothing" : "IllegalArgumentException");
        }
        for (char order : new char[] {0, 'N', 'a', 'm', 't', '-', 256 + 'n', 65535}) {
            Refusal.check("order " + (int) order, Scene::begun, Refusal.ARGUMENT,
                    it -> it.write(0, 0, 0, 0, 0, order, 0, 0));
        }
    }

    private static void promise2More() {
        Sentence.promise(2, "`more`: 2 times the tests, plus 1 if it tells the flags, 0 to 15");
        Refusal.range(Scene::begun, 0, 15, Refusal.ARGUMENT, (it, value) -> it.write(0, 0, 0, 0, 0, 'o', 0, value));
        for (int more = 0; more < 16; more++) {
            MicrostoreWorks works = new MicrostoreWorks();
            works.start(0, 0, true);
            works.interrupt();
            works.write(0, House.CONSTANT, 5, 0, 0, 'n', 1, 1);
            works.setConstant(0, 255);
            works.write(1, 0, 6, 0, 0, 'o', 16, more);
            works.step(2);
            int zero = more % 2 == 1 ? 0 : 1;
            Check.same("tests by " + more, works.next(), 16 + (zero + 2 + 4 & more / 2));
            Check.same("flags by " + more, works.part('Z'), zero);
        }
    }

    private static void promise2Returns() {
        Sentence.promise(2, "Returns the number of addresses that have words, the writable store included.");
        MicrostoreWorks works = new MicrostoreWorks();
        works.write(63, 0, 0, 0, 0, 'e', 0, 0);
        for (int address = 64; address < 80; address++) {
            works.patch(address, 63, 0);
        }
        for (int address = 0; address < 63; address++) {
            Check.same("with " + address, works.write(address, 0, 0, 0, 0, 'e', 0, 0), 18 + address);
        }
        Check.same("80, and one in place", works.write(0, 0, 0, 0, 0, 'e', 0, 0), 80);
        Check.same("one alone", new MicrostoreWorks().write(63, 0, 0, 0, 0, 'e', 0, 0), 1);
    }

    private static void promise2Refuses() {
        Sentence.promise(2, "Throws `IndexOutOfBoundsException` if there is no such address");
        Refusal.check("-1", Scene::begun, Refusal.INDEX, it -> it.write(-1, 0, 0, 0, 0, 'e', 0, 0));
        Refusal.check("64", Scene::begun, Refusal.INDEX, it -> it.write(64, 0, 0, 0, 0, 'e', 0, 0));
        Refusal.check("79", Scene::begun, Refusal.INDEX, it -> it.write(79, 0, 0, 0, 0, 'e', 0, 0));
        Sentence.promise(2, "Throws `IllegalArgumentException` if there is no such order, or a number is out of range");
        Refusal.check("order", Scene::begun, Refusal.ARGUMENT, it -> it.write(63, 0, 0, 0, 0, 'x', 0, 0));
        Refusal.check("drive", Scene::begun, Refusal.ARGUMENT, it -> it.write(63, 128, 0, 0, 0, 'e', 0, 0));
        Refusal.check("combine", Scene::begun, Refusal.ARGUMENT, it -> it.write(63, 0, 8, 0, 0, 'e', 0, 0));
        Refusal.check("listen", Scene::begun, Refusal.ARGUMENT, it -> it.write(63, 0, 0, 256, 0, 'e', 0, 0));
        Refusal.check("memory", Scene::begun, Refusal.ARGUMENT, it -> it.write(63, 0, 0, 0, 3, 'e', 0, 0));
        Refusal.check("number", Scene::begun, Refusal.ARGUMENT, it -> it.write(63, 0, 0, 0, 0, 'e', 80, 0));
        Refusal.check("more", Scene::begun, Refusal.ARGUMENT, it -> it.write(63, 0, 0, 0, 0, 'o', 0, 16));
        Sentence.promise(2, "Throws `UnsupportedOperationException` if the word is forbidden");
        Refusal.check("d", Scene::begun, Refusal.UNSUPPORTED, it -> it.write(0, 0, 0, 8, 1, 'n', 0, 0));
        Refusal.check("r", Scene::begun, Refusal.UNSUPPORTED, it -> it.write(0, 0, 0, 96, 0, 'n', 0, 0));
        Refusal.check("m", Scene::begun, Refusal.UNSUPPORTED, it -> it.write(0, 0, 0, 0, 1, 'c', 0, 0));
        Refusal.check("m", Scene::begun, Refusal.UNSUPPORTED, it -> it.write(63, 0, 0, 0, 2, 'r', 0, 0));
        Refusal.check("t", Scene::begun, Refusal.UNSUPPORTED, it -> it.write(63, 0, 0, 0, 0, 'e', 0, 2));
        Refusal.check("k", Scene::begun, Refusal.UNSUPPORTED, it -> it.write(63, 64, 0, 0, 0, 'o', 0, 0));
        Refusal.takes("flags are no test", Scene::begun, it -> it.write(63, 0, 0, 0, 0, 'e', 0, 1));
        Refusal.takes("D listens, and it writes", Scene::begun, it -> it.write(63, 0, 0, 8, 2, 'n', 0, 0));
    }

    // ---- patch

    private static void promise3Copy() {
        Sentence.promise(3, "Writes a micro-word of the writable store in the same way, as a copy of one that there is,"
                + " its constant included, with another number.");
        MicrostoreWorks works = new MicrostoreWorks();
        works.setCell(63, 90);
        works.write(0, 0, 0, 0, 0, 'n', 64, 0);
        works.write(5, House.U, 6, House.TO_U + House.TO_A, House.READ, 'o', 8, 1 + 2 * 3);
        works.patch(64, 5, 16);
        works.write(5, 0, 0, 0, 0, 'e', 0, 0);
        works.step(2);
        Check.same("drive", works.drivers(), House.U);
        Check.same("combination", works.part('U'), 255);
        Check.same("listen", works.part('A'), 63);
        Check.same("memory", works.part('D'), 90);
        Check.same("order, tests, flags, and another number", works.next(), 18);
        works.reset();
        works.write(5, House.CONSTANT, 0, House.TO_T, 0, 'n', 8, 0);
        works.setConstant(5, 255);
        Check.same("in place of another one", works.patch(64, 5, 79), 3);
        works.setConstant(5, 1);
        works.step(2);
        Check.same("the constant as it was", works.part('T'), 255);
        Check.same("another number", works.next(), 79);
        Check.same("of itself", works.patch(64, 64, 7), 3);
        Check.same("of one of the writable store", works.patch(79, 64, 6), 4);
        works.step(1);
        Check.same("with its number", works.next(), 6);
        Check.same("its constant", works.setConstant(79, 0), 255);
        Check.same("and of that one", works.setConstant(64, 0), 255);
    }

    private static void promise3Arguments() {
        Sentence.promise(3, "`address`: the address, 64 to 79");
        Refusal.range(Scene::begun, 64, 79, Refusal.INDEX, (it, value) -> it.patch(value, 5, 6));
        for (int address : new int[] {0, 1, 62}) {
            Refusal.check("" + address, Scene::begun, Refusal.INDEX, it -> it.patch(address, 5, 6));
        }
        Sentence.promise(3, "`from`: the address of the word that is copied, 0 to 79");
        Refusal.range(BoundariesOfStore::full, 0, 79, Refusal.INDEX, (it, value) -> it.patch(64, value, 6));
        Sentence.promise(3, "`number`: the number, 0 to 79");
        Refusal.range(Scene::begun, 0, 79, Refusal.ARGUMENT, (it, value) -> it.patch(65, 5, value));
    }

    private static void promise3Returns() {
        Sentence.promise(3, "Returns the number of addresses that have words.");
        MicrostoreWorks works = new MicrostoreWorks();
        works.write(0, 0, 0, 0, 0, 'e', 0, 0);
        for (int address = 79; address >= 64; address--) {
            Check.same("with " + address, works.patch(address, 0, 0), 81 - address);
            Check.same("again", works.patch(address, 0, 1), 81 - address);
        }
        Check.same("all 80", full().patch(79, 63, 0), 80);
    }

    private static void promise3Refuses() {
        Sentence.promise(3, "Throws `IndexOutOfBoundsException` if there is no such address, for either");
        Refusal.check("63", Scene::begun, Refusal.INDEX, it -> it.patch(63, 0, 0));
        Refusal.check("80", Scene::begun, Refusal.INDEX, it -> it.patch(80, 0, 0));
        Refusal.check("from -1", Scene::begun, Refusal.INDEX, it -> it.patch(64, -1, 0));
        Refusal.check("from 80", Scene::begun, Refusal.INDEX, it -> it.patch(64, 80, 0));
        Sentence.promise(3, "Throws `IllegalArgumentException` if the number is out of range");
        Refusal.check("-1", Scene::begun, Refusal.ARGUMENT, it -> it.patch(64, 0, -1));
        Refusal.check("80", Scene::begun, Refusal.ARGUMENT, it -> it.patch(64, 0, 80));
        Sentence.promise(3, "Throws `NoSuchElementException` if there is no word to copy");
        Refusal.check("63", Scene::begun, Refusal.NO_SUCH, it -> it.patch(64, 63, 0));
        Refusal.check("70 of itself", Scene::begun, Refusal.NO_SUCH, it -> it.patch(70, 70, 0));
        Refusal.check("a new one", MicrostoreWorks::new, Refusal.NO_SUCH, it -> it.patch(64, 0, 79));
    }

    // ---- setConstant

    private static void promise4Arguments() {
        Sentence.promise(4, "`address`: the address, 0 to 79");
        Refusal.range(BoundariesOfStore::full, 0, 79, Refusal.INDEX, (it, value) -> it.setConstant(value, 6));
        Sentence.promise(4, "`constant`: the constant, 0 to 255");
        Refusal.range(Scene::begun, 0, 255, Refusal.ARGUMENT, (it, value) -> it.setConstant(5, value));
        for (int constant : new int[] {0, 255}) {
            MicrostoreWorks works = Bench.heard(constant, House.TO_T);
            Check.same("it drives", works.bus(), constant);
        }
    }

    private static void promise4Returns() {
        Sentence.promise(4, "Returns the constant before.");
        MicrostoreWorks works = full();
        Check.same("at first", works.setConstant(0, 255), 0);
        Check.same("255", works.setConstant(0, 0), 255);
        Check.same("0", works.setConstant(0, 7), 0);
        Check.same("another one", works.setConstant(79, 8), 0);
        Check.same("each its own", works.setConstant(0, 9), 7);
    }

    private static void promise4Refuses() {
        Sentence.promise(4, "Throws `IndexOutOfBoundsException` if there is no such address");
        Refusal.check("-1", Scene::begun, Refusal.INDEX, it -> it.setConstant(-1, 0));
        Refusal.check("80", Scene::begun, Refusal.INDEX, it -> it.setConstant(80, 0));
        Sentence.promise(4, "Throws `IllegalArgumentException` if the constant is out of range");
        Refusal.check("-1", Scene::begun, Refusal.ARGUMENT, it -> it.setConstant(0, -1));
        Refusal.check("256", Scene::begun, Refusal.ARGUMENT, it -> it.setConstant(0, 256));
        Sentence.promise(4, "Throws `NoSuchElementException` if there is no word");
        Refusal.check("63", Scene::begun, Refusal.NO_SUCH, it -> it.setConstant(63, 0));
        Refusal.check("78", Scene::begun, Refusal.NO_SUCH, it -> it.setConstant(78, 255));
    }

    // ---- reason

    private static void promise5Arguments() {
        Sentence.promise(5, "`drive`: the parts that drive, 0 to 127");
        Refusal.range(Scene::begun, 0, 127, Refusal.ARGUMENT, (it, value) -> it.reason(value, 0, 0, 'n', 0));
        Sentence.promise(5, "`listen`: the parts that listen, 0 to 255");
        Refusal.range(Scene::begun, 0, 255, Refusal.ARGUMENT, (it, value) -> it.reason(0, value, 0, 'n', 0));
        Sentence.promise(5, "`memory`: the memory action, 0 to 2");
        Refusal.range(Scene::begun, 0, 2, Refusal.ARGUMENT, (it, value) -> it.reason(0, 0, value, 'n', 0));
        Sentence.promise(5, "`tests`: the tests, 0 to 7");
        Refusal.range(Scene::begun, 0, 7, Refusal.ARGUMENT, (it, value) -> it.reason(0, 0, 0, 'n', value));
    }

    private static void promise5Returns() {
        Sentence.promise(5, "Returns the first reason, or '-' if there is none.");
        MicrostoreWorks works = new MicrostoreWorks();
        Check.same("least", works.reason(0, 0, 0, 'n', 0), '-');
        Check.same("most", works.reason(63, 191, 2, 'o', 7), '-');
        Check.same("d", works.reason(127, 255, 1, 'r', 7), 'd');
        Check.same("r", works.reason(127, 255, 2, 'r', 7), 'r');
        Check.same("m", works.reason(127, 191, 2, 'r', 7), 'm');
        Check.same("t", works.reason(127, 191, 0, 'r', 7), 't');
        Check.same("k", works.reason(127, 191, 0, 'o', 7), 'k');
        Check.same("it does not write", works.reached(0), 0);
    }

    private static void promise5Refuses() {
        Sentence.promise(5, "Throws `IllegalArgumentException` if there is no such order, or a number is out of range");
        for (int i = 0; i < 65536; i++) {
            char order = (char) i;
            MicrostoreWorks works = new MicrostoreWorks();
            Check.same("order " + i, Check.nameOfThrown(() -> works.reason(0, 0, 0, order, 0)),
                    Bench.ORDERS.indexOf(order) >= 0 ? "nothing" : "IllegalArgumentException");
        }
        Refusal.check("order", Scene::begun, Refusal.ARGUMENT, it -> it.reason(64, 104, 1, '-', 7));
        Refusal.check("drive", Scene::begun, Refusal.ARGUMENT, it -> it.reason(-1, 104, 1, 'r', 7));
        Refusal.check("listen", Scene::begun, Refusal.ARGUMENT, it -> it.reason(0, 256, 1, 'r', 7));
        Refusal.check("memory", Scene::begun, Refusal.ARGUMENT, it -> it.reason(0, 104, 3, 'r', 7));
        Refusal.check("tests", Scene::begun, Refusal.ARGUMENT, it -> it.reason(0, 104, 1, 'r', 8));
    }

    // ---- reserve and free

    private static void promise6WithoutWords() {
        Sentence.promise(6, "Reserves addresses without words for words side by side:");
        for (int size = 1; size <= 8; size *= 2) {
            for (int at = 0; at < 8; at++) {
                MicrostoreWorks works = new MicrostoreWorks();
                works.write(at, 0, 0, 0, 0, 'e', 0, 0);
                Check.same(size + " with a word at " + at, works.reserve(size), at < size ? size : 0);
            }
        }
    }

    private static void promise6TheLowest() {
        Sentence.promise(6, "the lowest ones from 0 to 63 that are not reserved, of which the first one can be divided"
                + " by their number, so that the order 'o' reaches them by bits.");
        for (int size = 1; size <= 8; size *= 2) {
            MicrostoreWorks works = new MicrostoreWorks();
            for (int first = 0; first < 64; first += size) {
                Check.same("" + size, works.reserve(size), first);
            }
        }
        MicrostoreWorks works = new MicrostoreWorks();
        Check.same("1 at first", works.reserve(1), 0);
        Check.same("8 not at 1", works.reserve(8), 8);
        Check.same("4 not at 1", works.reserve(4), 4);
        Check.same("2 not at 1", works.reserve(2), 2);
        Check.same("1 is left", works.reserve(1), 1);
        Check.same("1 behind the 8", works.reserve(1), 16);
        Check.same("2 behind it", works.reserve(2), 18);
        Check.same("1 between them", works.reserve(1), 17);
        Check.same("4 behind them", works.reserve(4), 20);
    }

    private static void promise6Number() {
        Sentence.promise(6, "`words`: their number, 1, 2, 4 or 8");
        for (int size : new int[] {1, 2, 4, 8}) {
            MicrostoreWorks works = new MicrostoreWorks();
            works.reserve(size);
            Check.same("" + size, works.free(), 64 - size);
        }
        Sentence.promise(6, "Throws `IllegalArgumentException` if there is no such number");
        int[] others = {0, 3, 5, 6, 7, 9, 12, 16, 32, 64, -1, -2, -8, 257, Integer.MIN_VALUE, Integer.MAX_VALUE};
        for (int words : others) {
            Refusal.check("" + words, Scene::begun, Refusal.ARGUMENT, it -> it.reserve(words));
            Refusal.check(words + ", none left", BoundariesOfStore::full, Refusal.ARGUMENT, it -> it.reserve(words));
        }
    }

    private static void promise6None() {
        Sentence.promise(6, "Throws `IllegalStateException` if there are none");
        for (int size = 1; size <= 8; size *= 2) {
            int words = size;
            Refusal.check(size + ", all have words", BoundariesOfStore::full, Refusal.STATE, it -> it.reserve(words));
            Refusal.check(size + ", all are reserved", () -> reserved(8), Refusal.STATE, it -> it.reserve(words));
        }
        for (int size = 2; size <= 8; size *= 2) {
            int words = size;
            Refusal.check(size + " of 32 single ones", BoundariesOfStore::everySecond, Refusal.STATE,
                    it -> it.reserve(words));
        }
        Check.same("a single one", everySecond().reserve(1), 1);
        Check.same("the last 8", reserved(7).reserve(8), 56);
        MicrostoreWorks last = reserved(7);
        last.write(56, 0, 0, 0, 0, 'e', 0, 0);
        Check.same("the last 4", last.reserve(4), 60);
        Check.same("the last 2", last.reserve(2), 58);
        Check.same("the last one", last.reserve(1), 57);
        Check.same("no more", Check.nameOfThrown(() -> last.reserve(1)), "IllegalStateException");
    }

    private static MicrostoreWorks reserved(int eights) {
        MicrostoreWorks works = new MicrostoreWorks();
        for (int i = 0; i < eights; i++) {
            works.reserve(8);
        }
        return works;
    }

    private static MicrostoreWorks everySecond() {
        MicrostoreWorks works = new MicrostoreWorks();
        for (int address = 0; address < 64; address += 2) {
            works.write(address, 0, 0, 0, 0, 'e', 0, 0);
        }
        return works;
    }

    private static void promise7Free() {
        Sentence.promise(7, "Returns the number of addresses from 0 to 63 that have no word and are not reserved.");
        Check.same("at first", new MicrostoreWorks().free(), 64);
        Check.same("all have words", full().free(), 0);
        Check.same("all are reserved", reserved(8).free(), 0);
        Check.same("half have words", everySecond().free(), 32);
        MicrostoreWorks works = reserved(7);
        Check.same("8 are left", works.free(), 8);
        works.write(0, 0, 0, 0, 0, 'e', 0, 0);
        Check.same("a word where it is reserved", works.free(), 8);
        works.write(63, 0, 0, 0, 0, 'e', 0, 0);
        Check.same("a word where it is not", works.free(), 7);
        works.write(63, 0, 0, 0, 0, 'e', 0, 0);
        Check.same("again", works.free(), 7);
        works.patch(64, 63, 0);
        works.patch(79, 63, 0);
        Check.same("words of the writable store", works.free(), 7);
    }

    // ---- setEntry

    private static void promise8Arguments() {
        Sentence.promise(8, "`set`: the set, 0 or 1");
        Refusal.range(Scene::begun, 0, 1, Refusal.INDEX, (it, value) -> it.setEntry(value, 0, 0));
        Sentence.promise(8, "`operation`: the operation, 0 to 15");
        Refusal.range(Scene::begun, 0, 15, Refusal.INDEX, (it, value) -> it.setEntry(1, value, 0));
        Refusal.check("16 is not the operation 0 of the set 1", Scene::begun, Refusal.INDEX,
                it -> it.setEntry(0, 16, 0));
        Refusal.check("-1 is not the operation 15 of the set 0", Scene::begun, Refusal.INDEX,
                it -> it.setEntry(1, -1, 0));
        Sentence.promise(8, "`address`: the address, 0 to 79, or -1 for none, as at first");
        Refusal.range(Scene::begun, -1, 79, Refusal.ARGUMENT, (it, value) -> it.setEntry(0, 0, value));
        MicrostoreWorks works = new MicrostoreWorks();
        works.write(0, 0, 0, 0, 0, 'd', 0, 0);
        for (int address = -1; address < 80; address++) {
            works.reset();
            works.setEntry(0, 0, address);
            works.step(1);
            Check.same("" + address, works.next(), address);
        }
    }

    private static void promise8Returns() {
        Sentence.promise(8, "Returns the address before, or -1.");
        MicrostoreWorks works = new MicrostoreWorks();
        for (int i = 0; i < 32; i++) {
            Check.same("at first", works.setEntry(i / 16, i % 16, 79 - i), -1);
        }
        for (int i = 0; i < 32; i++) {
            Check.same("each its own", works.setEntry(i / 16, i % 16, 0), 79 - i);
        }
        Check.same("0", works.setEntry(1, 15, -1), 0);
        Check.same("-1", works.setEntry(1, 15, 79), -1);
    }

    private static void promise8Refuses() {
        Sentence.promise(8, "Throws `IndexOutOfBoundsException` if there is no such set or no such operation");
        Refusal.check("set 2", Scene::begun, Refusal.INDEX, it -> it.setEntry(2, 15, 0));
        Refusal.check("set -1", Scene::begun, Refusal.INDEX, it -> it.setEntry(-1, 0, 0));
        Refusal.check("operation 16", Scene::begun, Refusal.INDEX, it -> it.setEntry(1, 16, 0));
        Refusal.check("operation -1", Scene::begun, Refusal.INDEX, it -> it.setEntry(0, -1, 0));
        Sentence.promise(8, "Throws `IllegalArgumentException` if the address is out of range");
        Refusal.check("80", Scene::begun, Refusal.ARGUMENT, it -> it.setEntry(0, 0, 80));
        Refusal.check("-2", Scene::begun, Refusal.ARGUMENT, it -> it.setEntry(1, 15, -2));
    }

    // ---- setCatch

    private static void promise9InPlace() {
        Sentence.promise(9, "Sets a catch, in place of one for the same address.");
        MicrostoreWorks works = new MicrostoreWorks();
        works.write(0, 0, 0, 0, 0, 'n', 79, 0);
        for (int to = 64; to < 80; to++) {
            Check.same("one catch", works.setCatch(79, to), 1);
            works.reset();
            works.step(1);
            Check.same("leads to " + to, works.next(), to);
        }
        works.setCatch(79, -1);
        works.reset();
        works.step(1);
        Check.same("dropped", works.next(), 79);
        MicrostoreWorks four = BoundariesOfDefinitions.withFourCatches();
        Check.same("in place of one of four", four.setCatch(5, 79), 4);
    }

    private static void promise9Arguments() {
        Sentence.promise(9, "`address`: the address that is caught, 0 to 79");
        Refusal.range(Scene::begun, 0, 79, Refusal.INDEX, (it, value) -> it.setCatch(value, 64));
        Sentence.promise(9, "`to`: the address of the writable store to which it leads, 64 to 79, or -1 to drop the"
                + " catch");
        Refusal.range(Scene::begun, 64, 79, Refusal.ARGUMENT, (it, value) -> it.setCatch(9, value));
        for (int to : new int[] {0, 1, 62, -2, -64}) {
            Refusal.check("" + to, Scene::begun, Refusal.ARGUMENT, it -> it.setCatch(5, to));
        }
        Refusal.takes("-1", Scene::begun, it -> it.setCatch(5, -1));
    }

    private static void promise9Returns() {
        Sentence.promise(9, "Returns the number of catches.");
        MicrostoreWorks works = new MicrostoreWorks();
        int[] addresses = {0, 63, 64, 79};
        for (int i = 0; i < 4; i++) {
            Check.same("with " + addresses[i], works.setCatch(addresses[i], 64), i + 1);
            Check.same("again", works.setCatch(addresses[i], 65), i + 1);
        }
        for (int i = 0; i < 4; i++) {
            Check.same("without " + addresses[i], works.setCatch(addresses[i], -1), 3 - i);
        }
        Check.same("one again", works.setCatch(63, 64), 1);
    }

    private static void promise9RefusesArguments() {
        Sentence.promise(9, "Throws `IndexOutOfBoundsException` if there is no such address");
        Refusal.check("-1", Scene::begun, Refusal.INDEX, it -> it.setCatch(-1, 64));
        Refusal.check("80", Scene::begun, Refusal.INDEX, it -> it.setCatch(80, 64));
        Refusal.check("80 to drop", Scene::begun, Refusal.INDEX, it -> it.setCatch(80, -1));
        Sentence.promise(9, "Throws `IllegalArgumentException` if the second address is out of range");
        Refusal.check("63", Scene::begun, Refusal.ARGUMENT, it -> it.setCatch(5, 63));
        Refusal.check("80", Scene::begun, Refusal.ARGUMENT, it -> it.setCatch(5, 80));
        Refusal.check("-2", Scene::begun, Refusal.ARGUMENT, it -> it.setCatch(5, -2));
    }

    private static void promise9RefusesToDrop() {
        Sentence.promise(9, "Throws `NoSuchElementException` if a catch is dropped that there is not");
        for (int i = 0; i < 80; i++) {
            int address = i;
            MicrostoreWorks works = Scene.begun();
            Check.same("" + i, Check.nameOfThrown(() -> works.setCatch(address, -1)),
                    i == 5 ? "nothing" : "NoSuchElementException");
        }
        Refusal.check("64, to which one leads", Scene::begun, Refusal.NO_SUCH, it -> it.setCatch(64, -1));
        Refusal.check("dropped twice", () -> {
            MicrostoreWorks works = Scene.begun();
            works.setCatch(5, -1);
            return works;
        }, Refusal.NO_SUCH, it -> it.setCatch(5, -1));
    }

    private static void promise9RefusesAFifth() {
        Sentence.promise(9, "Throws `IllegalStateException` if there are 4 catches for other addresses");
        for (int address : new int[] {1, 4, 6, 63, 64, 78}) {
            Refusal.check("" + address, BoundariesOfDefinitions::withFourCatches, Refusal.STATE,
                    it -> it.setCatch(address, 79));
        }
        for (int address : new int[] {0, 5, 70, 79}) {
            Refusal.takes("one of the four", BoundariesOfDefinitions::withFourCatches, it -> it.setCatch(address, 78));
            Refusal.takes("a fourth one again", BoundariesOfDefinitions::withFourCatches, it -> {
                it.setCatch(address, -1);
                it.setCatch(33, 78);
            });
        }
    }
}
