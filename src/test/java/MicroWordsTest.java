/** Promises 1 to 9: a new object, and the calls that write and patch the store. */
public final class MicroWordsTest {
    private static final Class<IndexOutOfBoundsException> INDEX = IndexOutOfBoundsException.class;
    private static final Class<IllegalArgumentException> ARGUMENT = IllegalArgumentException.class;
    private static final Class<UnsupportedOperationException> UNSUPPORTED = UnsupportedOperationException.class;
    private static final Class<java.util.NoSuchElementException> NO_SUCH = java.util.NoSuchElementException.class;
    private static final Class<IllegalStateException> STATE = IllegalStateException.class;

    public static void main(String[] args) {
        promise1NewObject();
        promise2Write();
        promise2WriteRefuses();
        promise3Patch();
        promise3PatchRefuses();
        promise3PatchCopiesAll();
        promise4SetConstant();
        promise4SetConstantRefuses();
        promise5Reason();
        promise5ReasonRefuses();
        promise6Reserve();
        promise6ReserveRefuses();
        promise7Free();
        promise8SetEntry();
        promise8SetEntryRefuses();
        promise9SetCatch();
        promise9SetCatchRefuses();
        promise9CatchesAreFollowedOnce();
        Check.finish();
    }

    private static void promise1NewObject() {
        MicrostoreWorks works = new MicrostoreWorks();
        Check.same("state", works.state(), 'r');
        Check.same("next", works.next(), 0);
        Check.same("cycles", works.cycles(), 0);
        Check.same("returns", works.returns(), 0);
        Check.same("bus", works.bus(), 0);
        Check.same("drivers", works.drivers(), 0);
        for (char part : "PZCSIKTUADXE".toCharArray()) {
            Check.same("part " + part, works.part(part), 0);
        }
        for (int i = 0; i < 64; i++) {
            Check.same("cell", works.cell(i), 0);
        }
        for (int i = 0; i < 4; i++) {
            Check.same("register", works.register(i), 0);
            Check.same("page", works.setPage(i, true), true);
        }
        for (int i = 0; i < 32; i++) {
            Check.same("entry", works.setEntry(i / 16, i % 16, -1), -1);
        }
        for (int i = 0; i < 80; i++) {
            Check.same("words", works.reached(i), 0);
            int address = i;
            Check.refuses("a catch to drop", NO_SUCH, () -> works.setCatch(address, -1));
        }
        Check.same("wait", works.setWait(0), 0);
        Check.same("vector", works.setVector(0), 48);
        Check.same("free", works.free(), 64);
        Check.same("interrupt", works.interrupt(), false);
        Check.same("counts", works.ended() + works.wrong() + works.fights() + works.faults() + works.taken()
                + works.found(), 0);
        Check.same("sound", works.isSound(), true);
    }

    private static void promise2Write() {
        MicrostoreWorks works = new MicrostoreWorks();
        Check.same("first word", works.write(0, 0, 0, 0, 0, 'e', 0, 0), 1);
        Check.same("last fixed address", works.write(63, 63, 7, 191, 2, 'o', 79, 15), 2);
        Check.same("in place of another", works.write(0, 127, 0, 0, 0, 'n', 63, 0), 2);
        Check.same("the writable store counts", works.patch(79, 0, 0), 3);
        Check.same("all orders", works.write(1, 0, 0, 0, 0, 'n', 0, 0), 4);
        for (char order : "nocrdpeskgq".toCharArray()) {
            Check.same("order " + order, works.write(2, 0, 0, 0, 0, order, 0, 1), 5);
        }
        works.setConstant(1, 77);
        Check.same("its constant", works.setConstant(1, 78), 77);
        works.write(1, 64, 0, 1, 0, 'e', 0, 0);
        Check.same("the constant is 0 again", works.setConstant(1, 3), 0);
    }

    private static void promise2WriteRefuses() {
        Refusal.check("address -1", Scene::begun, INDEX, works -> works.write(-1, 128, 8, 0, 0, 'x', 80, 16));
        Refusal.check("address 64", Scene::begun, INDEX, works -> works.write(64, 0, 0, 0, 0, 'e', 0, 0));
        Refusal.check("address far out", Scene::begun, INDEX,
            works -> works.write(Integer.MIN_VALUE, 0, 0, 0, 0, 'e', 0, 0));
        Refusal.check("drive -1", Scene::begun, ARGUMENT, works -> works.write(0, -1, 0, 0, 0, 'e', 0, 0));
        Refusal.check("drive 128", Scene::begun, ARGUMENT, works -> works.write(0, 128, 0, 0, 0, 'e', 0, 0));
        Refusal.check("combine -1", Scene::begun, ARGUMENT, works -> works.write(0, 0, -1, 0, 0, 'e', 0, 0));
        Refusal.check("combine 8", Scene::begun, ARGUMENT, works -> works.write(0, 0, 8, 0, 0, 'e', 0, 0));
        Refusal.check("listen -1", Scene::begun, ARGUMENT, works -> works.write(0, 0, 0, -1, 0, 'e', 0, 0));
        Refusal.check("listen 256", Scene::begun, ARGUMENT, works -> works.write(0, 0, 0, 256, 0, 'e', 0, 0));
        Refusal.check("memory -1", Scene::begun, ARGUMENT, works -> works.write(0, 0, 0, 0, -1, 'e', 0, 0));
        Refusal.check("memory 3", Scene::begun, ARGUMENT, works -> works.write(0, 0, 0, 0, 3, 'e', 0, 0));
        Refusal.check("order x", Scene::begun, ARGUMENT, works -> works.write(0, 0, 0, 0, 0, 'x', 0, 0));
        Refusal.check("order 0", Scene::begun, ARGUMENT, works -> works.write(0, 0, 0, 0, 0, (char) 0, 0, 0));
        Refusal.check("order 366", Scene::begun, ARGUMENT,
            works -> works.write(0, 0, 0, 0, 0, (char) (256 + 'n'), 0, 0));
        Refusal.check("number -1", Scene::begun, ARGUMENT, works -> works.write(0, 0, 0, 0, 0, 'n', -1, 0));
        Refusal.check("number 80", Scene::begun, ARGUMENT, works -> works.write(0, 0, 0, 0, 0, 'n', 80, 0));
        Refusal.check("more -1", Scene::begun, ARGUMENT, works -> works.write(0, 0, 0, 0, 0, 'o', 0, -1));
        Refusal.check("more 16", Scene::begun, ARGUMENT, works -> works.write(0, 0, 0, 0, 0, 'o', 0, 16));
        Refusal.check("number first", Scene::begun, ARGUMENT, works -> works.write(0, 0, 0, 8, 1, 'n', 80, 0));
        Refusal.check("forbidden d", Scene::begun, UNSUPPORTED, works -> works.write(0, 0, 0, 8, 1, 'n', 0, 0));
        Refusal.check("forbidden r", Scene::begun, UNSUPPORTED, works -> works.write(0, 0, 0, 96, 0, 'n', 0, 0));
        Refusal.check("all listen", Scene::begun, UNSUPPORTED, works -> works.write(0, 0, 0, 255, 0, 'n', 0, 0));
        Refusal.check("forbidden m", Scene::begun, UNSUPPORTED, works -> works.write(0, 0, 0, 0, 2, 'r', 0, 0));
        Refusal.check("forbidden t", Scene::begun, UNSUPPORTED, works -> works.write(0, 0, 0, 0, 0, 'e', 0, 8));
        Refusal.check("forbidden k", Scene::idle, UNSUPPORTED, works -> works.write(0, 64, 0, 0, 0, 'o', 0, 0));
    }

    private static void promise3Patch() {
        MicrostoreWorks works = new MicrostoreWorks();
        works.write(5, 64, 0, 1, 0, 'n', 6, 0);
        works.setConstant(5, 99);
        Check.same("patch 64", works.patch(64, 5, 79), 2);
        Check.same("patch 79 from a patch", works.patch(79, 64, 0), 3);
        Check.same("patch in place", works.patch(64, 64, 3), 3);
        Check.same("the constant is copied", works.setConstant(79, 0), 99);
        Check.same("each has its own constant", works.setConstant(5, 1), 99);
        works.write(0, 0, 0, 0, 0, 'n', 64, 0);
        works.write(3, 0, 0, 0, 0, 'e', 0, 0);
        works.step(2);
        Check.same("the copy does what the word does", works.part('T'), 99);
        Check.same("the copy has its own number", works.next(), 3);
    }

    private static void promise3PatchRefuses() {
        Refusal.check("63", Scene::idle, INDEX, works -> works.patch(63, 5, 80));
        Refusal.check("80", Scene::idle, INDEX, works -> works.patch(80, 5, 0));
        Refusal.check("far below", Scene::idle, INDEX, works -> works.patch(Integer.MIN_VALUE, 5, 0));
        Refusal.check("from -1", Scene::idle, INDEX, works -> works.patch(64, -1, 80));
        Refusal.check("from 80", Scene::idle, INDEX, works -> works.patch(64, 80, 0));
        Refusal.check("number -1", Scene::idle, ARGUMENT, works -> works.patch(64, 50, -1));
        Refusal.check("number 80", Scene::idle, ARGUMENT, works -> works.patch(64, 5, 80));
        Refusal.check("no word", Scene::idle, NO_SUCH, works -> works.patch(70, 70, 0));
        Refusal.check("no word below", Scene::idle, NO_SUCH, works -> works.patch(64, 50, 0));
    }

    /** A word that drives U, takes 1 from it, tells flags, is heard by U and A, reads, and tests Z and C. */
    private static void promise3PatchCopiesAll() {
        MicrostoreWorks works = new MicrostoreWorks();
        works.setCell(63, 90);
        works.write(0, 0, 0, 0, 0, 'n', 64, 0);
        works.write(5, 2, 6, 2 + 4, 1, 'o', 8, 1 + House.TEST_Z + House.TEST_C);
        works.patch(64, 5, 16);
        works.step(2);
        Check.same("drive", works.drivers(), 2);
        Check.same("combination", works.part('U'), 255);
        Check.same("listen", works.part('A'), 63);
        Check.same("memory", works.part('D'), 90);
        Check.same("order, tests, flags and the other number", works.next(), 18);
        Check.same("flags", works.found(), 1);
    }

    private static void promise4SetConstant() {
        MicrostoreWorks works = new MicrostoreWorks();
        works.write(0, 64, 0, 2, 0, 'n', 0, 0);
        works.patch(79, 0, 0);
        Check.same("first", works.setConstant(0, 255), 0);
        Check.same("second", works.setConstant(0, 17), 255);
        Check.same("of the writable store", works.setConstant(79, 1), 0);
        works.step(1);
        Check.same("it drives", works.bus(), 17);
        Check.same("and is heard", works.part('U'), 17);
    }

    private static void promise4SetConstantRefuses() {
        Refusal.check("-1", Scene::idle, INDEX, works -> works.setConstant(-1, 256));
        Refusal.check("80", Scene::idle, INDEX, works -> works.setConstant(80, 0));
        Refusal.check("constant -1", Scene::idle, ARGUMENT, works -> works.setConstant(50, -1));
        Refusal.check("constant 256", Scene::idle, ARGUMENT, works -> works.setConstant(0, 256));
        Refusal.check("no word", Scene::idle, NO_SUCH, works -> works.setConstant(50, 0));
    }

    private static void promise5Reason() {
        MicrostoreWorks works = new MicrostoreWorks();
        Check.same("none", works.reason(63, 191, 2, 'o', 7), '-');
        Check.same("d", works.reason(0, 8, 1, 'n', 0), 'd');
        Check.same("written, D may listen", works.reason(0, 8, 2, 'n', 0), '-');
        Check.same("d ahead of all", works.reason(64, 104, 1, 'r', 7), 'd');
        Check.same("r", works.reason(0, 96, 0, 'n', 0), 'r');
        Check.same("one register", works.reason(0, 32, 0, 'n', 0), '-');
        Check.same("all listen", works.reason(0, 255, 0, 'n', 0), 'r');
        Check.same("r ahead of m", works.reason(64, 96, 1, 'r', 7), 'r');
        Check.same("m for c", works.reason(0, 0, 1, 'c', 0), 'm');
        Check.same("m for r", works.reason(0, 0, 2, 'r', 0), 'm');
        Check.same("c alone", works.reason(0, 0, 0, 'c', 0), '-');
        Check.same("m ahead of t", works.reason(0, 0, 2, 'c', 1), 'm');
        for (char order : "ncrdpeskgq".toCharArray()) {
            Check.same("t for " + order, works.reason(64, 0, 0, order, 4), 't');
            Check.same("constant for " + order, works.reason(64, 0, 0, order, 0), '-');
        }
        Check.same("k", works.reason(64, 0, 0, 'o', 0), 'k');
    }

    private static void promise5ReasonRefuses() {
        Refusal.check("drive -1", Scene::idle, ARGUMENT, works -> works.reason(-1, 0, 0, 'n', 0));
        Refusal.check("drive 128", Scene::idle, ARGUMENT, works -> works.reason(128, 0, 0, 'n', 0));
        Refusal.check("listen -1", Scene::idle, ARGUMENT, works -> works.reason(0, -1, 0, 'n', 0));
        Refusal.check("listen 256", Scene::idle, ARGUMENT, works -> works.reason(0, 256, 0, 'n', 0));
        Refusal.check("memory -1", Scene::idle, ARGUMENT, works -> works.reason(0, 0, -1, 'n', 0));
        Refusal.check("memory 3", Scene::idle, ARGUMENT, works -> works.reason(0, 0, 3, 'n', 0));
        Refusal.check("order", Scene::idle, ARGUMENT, works -> works.reason(0, 0, 0, 'N', 0));
        Refusal.check("tests -1", Scene::idle, ARGUMENT, works -> works.reason(0, 0, 0, 'o', -1));
        Refusal.check("tests 8", Scene::idle, ARGUMENT, works -> works.reason(0, 0, 0, 'o', 8));
    }

    private static void promise6Reserve() {
        MicrostoreWorks works = new MicrostoreWorks();
        works.write(0, 0, 0, 0, 0, 'e', 0, 0);
        works.write(5, 0, 0, 0, 0, 'e', 0, 0);
        Check.same("2", works.reserve(2), 2);
        Check.same("1", works.reserve(1), 1);
        Check.same("1 more", works.reserve(1), 4);
        Check.same("4", works.reserve(4), 8);
        Check.same("8", works.reserve(8), 16);
        Check.same("2 more", works.reserve(2), 6);
        Check.same("a reserved address may get a word", works.write(2, 0, 0, 0, 0, 'e', 0, 0), 3);
        works.write(62, 0, 0, 0, 0, 'e', 0, 0);
        for (int i = 0; i < 4; i++) {
            Check.same("8 more", works.reserve(8), 24 + 8 * i);
        }
        Check.refuses("no 8", STATE, () -> works.reserve(8));
        Check.same("4 of the gap", works.reserve(4), 12);
        Check.same("4 of the end", works.reserve(4), 56);
        Check.refuses("no 4", STATE, () -> works.reserve(4));
        Check.same("2 of the end", works.reserve(2), 60);
        Check.refuses("no 2", STATE, () -> works.reserve(2));
        Check.same("the last", works.reserve(1), 63);
        Check.refuses("no 1", STATE, () -> works.reserve(1));
    }

    private static MicrostoreWorks allReserved() {
        MicrostoreWorks works = Scene.idle();
        for (int left = works.free(); left > 0; left--) {
            works.reserve(1);
        }
        return works;
    }

    private static void promise6ReserveRefuses() {
        Refusal.check("none is left", MicroWordsTest::allReserved, STATE, works -> works.reserve(1));
        for (int words : new int[] {Integer.MIN_VALUE, -1, 0, 3, 5, 6, 7, 9, 16}) {
            Refusal.check("no such number", Scene::idle, ARGUMENT, works -> works.reserve(words));
        }
    }

    private static void promise7Free() {
        MicrostoreWorks works = new MicrostoreWorks();
        works.reserve(8);
        Check.same("reserved", works.free(), 56);
        works.write(3, 0, 0, 0, 0, 'e', 0, 0);
        Check.same("reserved and written", works.free(), 56);
        works.write(8, 0, 0, 0, 0, 'e', 0, 0);
        works.write(8, 0, 0, 0, 0, 'n', 0, 0);
        Check.same("written", works.free(), 55);
        works.patch(64, 8, 0);
        Check.same("the writable store does not count", works.free(), 55);
    }

    private static void promise8SetEntry() {
        MicrostoreWorks works = new MicrostoreWorks();
        Check.same("first", works.setEntry(0, 0, 0), -1);
        Check.same("again", works.setEntry(0, 0, 79), 0);
        Check.same("none", works.setEntry(0, 0, -1), 79);
        Check.same("none before", works.setEntry(0, 0, 5), -1);
        Check.same("another", works.setEntry(1, 15, 6), -1);
        Check.same("each its own", works.setEntry(1, 0, 7), -1);
        Check.same("each its own", works.setEntry(0, 15, 8), -1);
        Check.same("and kept", works.setEntry(1, 15, 6), 6);
        works.write(0, 0, 0, 0, 0, 'd', 0, 0);
        works.step(1);
        Check.same("'d' goes there", works.next(), 5);
        works.reset();
        works.start(0, 1, false);
        works.step(1);
        Check.same("'d' goes there in the set 1", works.next(), 7);
        works.reset();
        works.setEntry(1, 0, -1);
        works.step(1);
        Check.same("no entry", works.next(), -1);
        works.write(0, 64, 0, 128, 0, 'd', 0, 0);
        works.setConstant(0, 0xF3);
        works.reset();
        works.step(1);
        Check.same("by X as it is now", works.next(), 6);
    }

    private static void promise8SetEntryRefuses() {
        Refusal.check("set -1", Scene::idle, INDEX, works -> works.setEntry(-1, 0, 80));
        Refusal.check("set 2", Scene::idle, INDEX, works -> works.setEntry(2, 0, 0));
        Refusal.check("operation -1", Scene::idle, INDEX, works -> works.setEntry(0, -1, 0));
        Refusal.check("operation 16", Scene::idle, INDEX, works -> works.setEntry(0, 16, -2));
        Refusal.check("address -2", Scene::idle, ARGUMENT, works -> works.setEntry(0, 0, -2));
        Refusal.check("address 80", Scene::idle, ARGUMENT, works -> works.setEntry(0, 0, 80));
    }

    private static void promise9SetCatch() {
        MicrostoreWorks works = new MicrostoreWorks();
        Check.same("first", works.setCatch(0, 64), 1);
        Check.same("in place", works.setCatch(0, 79), 1);
        Check.same("second", works.setCatch(79, 64), 2);
        Check.same("third", works.setCatch(70, 70), 3);
        Check.same("fourth", works.setCatch(5, 71), 4);
        Check.same("in place of one of four", works.setCatch(5, 72), 4);
        Check.same("dropped", works.setCatch(0, -1), 3);
        Check.same("again a fourth", works.setCatch(6, 71), 4);
    }

    /** As many as there may be. */
    private static MicrostoreWorks fourCatches() {
        MicrostoreWorks works = new MicrostoreWorks();
        works.setCatch(0, 64);
        works.setCatch(79, 64);
        works.setCatch(70, 70);
        works.setCatch(5, 71);
        return works;
    }

    private static void promise9SetCatchRefuses() {
        Refusal.check("fifth", MicroWordsTest::fourCatches, STATE, works -> works.setCatch(6, 71));
        Refusal.check("none to drop ahead of too many", MicroWordsTest::fourCatches, NO_SUCH,
            works -> works.setCatch(6, -1));
        Refusal.check("none to drop", Scene::idle, NO_SUCH, works -> works.setCatch(0, -1));
        Refusal.check("-1", MicroWordsTest::fourCatches, INDEX, works -> works.setCatch(-1, 63));
        Refusal.check("80", MicroWordsTest::fourCatches, INDEX, works -> works.setCatch(80, 64));
        Refusal.check("to 63", MicroWordsTest::fourCatches, ARGUMENT, works -> works.setCatch(7, 63));
        Refusal.check("to 80", MicroWordsTest::fourCatches, ARGUMENT, works -> works.setCatch(7, 80));
        Refusal.check("to 0", MicroWordsTest::fourCatches, ARGUMENT, works -> works.setCatch(7, 0));
        Refusal.check("to -2", MicroWordsTest::fourCatches, ARGUMENT, works -> works.setCatch(7, -2));
    }

    private static void promise9CatchesAreFollowedOnce() {
        MicrostoreWorks works = new MicrostoreWorks();
        works.write(0, 0, 0, 0, 0, 'n', 5, 0);
        works.setCatch(5, 70);
        works.setCatch(70, 71);
        works.setCatch(0, 72);
        Check.same("the beginning is no order's address", works.next(), 0);
        works.step(1);
        Check.same("not followed twice", works.next(), 70);
        works.patch(70, 0, 70);
        works.step(1);
        Check.same("a catch for the writable store", works.next(), 71);
        works.patch(71, 0, 79);
        works.step(1);
        Check.same("no catch", works.next(), 79);
        works.step(1);
        Check.same("lost", works.state(), 'l');
        Check.same("taken back to the beginning, which is not caught", works.next(), 0);
        checkEachOrderIsCaught();
    }

    private static void checkEachOrderIsCaught() {
        MicrostoreWorks works = new MicrostoreWorks();
        works.write(0, 0, 0, 0, 0, 'o', 8, 1 + House.TEST_Z);
        works.write(9, 0, 0, 0, 0, 'c', 20, 0);
        works.patch(64, 9, 20);
        works.patch(65, 9, 30);
        works.setCatch(9, 64);
        works.setCatch(20, 65);
        works.step(1);
        Check.same("'o' with its bits", works.next(), 64);
        works.step(1);
        Check.same("'c'", works.next(), 65);
        works.write(30, 0, 0, 0, 0, 'r', 0, 0);
        works.step(2);
        Check.same("'r' to 66", works.next(), 66);
        works.patch(66, 30, 0);
        works.setCatch(65, 79);
        works.step(1);
        Check.same("'r' caught", works.next(), 79);
        works.setCatch(9, -1);
        works.setCatch(0, 67);
        works.write(0, 0, 0, 0, 0, 'p', 0, 0);
        works.reset();
        works.step(1);
        Check.same("'p' caught", works.next(), 67);
        Check.same("'p' exchanges", works.part('E'), 1);
        works.write(0, 0, 0, 0, 0, 'd', 0, 0);
        works.setEntry(0, 0, 20);
        works.reset();
        works.step(1);
        Check.same("'d' caught", works.next(), 65);
        works.write(0, 0, 0, 0, 0, 'e', 0, 0);
        works.reset();
        works.step(1);
        Check.same("an end is not caught", works.next(), 0);
    }
}
