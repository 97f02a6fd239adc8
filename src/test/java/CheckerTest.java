/** Promises 28 and 29: the checker goes all ways. */
public final class CheckerTest {
    private static final Class<IndexOutOfBoundsException> INDEX = IndexOutOfBoundsException.class;

    public static void main(String[] args) {
        promise28WhatIsRead();
        promise28WhatIsSet();
        promise28Ways();
        promise28And29Refuse();
        promise28And29ChangeNothing();
        promise29Reached();
        promise29Catches();
        Check.finish();
    }

    /** The parts that are read ahead of being set by one word that ends. */
    private static void checkWord(int drive, int combine, int listen, int memory, int due) {
        MicrostoreWorks works = new MicrostoreWorks();
        works.write(0, drive, combine, listen, memory, 'e', 0, 0);
        Check.same("unset of " + drive + " " + combine + " " + listen + " " + memory, works.unset(0), due);
    }

    private static void promise28WhatIsRead() {
        checkWord(0, 0, 0, 0, 0);
        checkWord(1, 0, 0, 0, 1);
        checkWord(1, 0, 1, 0, 1);
        checkWord(2, 0, 0, 0, 2);
        checkWord(2, 0, 2, 0, 2);
        checkWord(4, 0, 0, 0, 8);
        checkWord(4, 0, 8, 0, 8);
        checkWord(8 + 16 + 32 + 64, 0, 0, 0, 0);
        for (int combine = 0; combine < 8; combine++) {
            checkWord(64, combine, 1, 0, combine >= 1 && combine <= 4 ? 1 : 0);
        }
        checkWord(0, 0, 0, 1, 4);
        checkWord(0, 0, 4, 1, 0);
        checkWord(0, 0, 0, 2, 4 + 8);
        checkWord(0, 0, 4, 2, 8);
        checkWord(0, 0, 8, 2, 4);
        checkWord(0, 0, 12, 2, 0);
        checkWord(4, 0, 12, 2, 8);
        checkWord(7, 0, 0, 1, 15);
    }

    private static void promise28WhatIsSet() {
        MicrostoreWorks works = new MicrostoreWorks();
        works.write(9, 7, 1, 0, 2, 'e', 0, 0);
        for (int listen = 0; listen < 16; listen++) {
            works.write(8, 0, 0, listen, 0, 'n', 9, 0);
            Check.same("set by " + listen, works.unset(8), 15 - listen);
        }
        works.write(8, 0, 0, 4, 1, 'n', 9, 0);
        Check.same("D is set by reading", works.unset(8), 3);
        works.write(8, 0, 0, 4, 2, 'n', 9, 0);
        Check.same("D is not set by writing", works.unset(8), 11);
        works.write(8, 0, 0, 176, 0, 'n', 9, 0);
        Check.same("others are no hidden parts", works.unset(8), 15);
    }

    private static void promise28Ways() {
        MicrostoreWorks works = new MicrostoreWorks();
        works.write(0, 0, 0, 1, 0, 'n', 1, 0);
        works.write(1, 0, 0, 0, 0, 'o', 8, House.TEST_C + House.TEST_INTERRUPT);
        works.write(8, 0, 0, 0, 0, 'e', 0, 0);
        works.write(9, 4, 0, 0, 0, 'e', 0, 0);
        works.write(10, 2, 0, 0, 0, 'n', 1, 0);
        works.write(12, 1, 0, 0, 0, 'e', 0, 0);
        works.write(14, 0, 0, 0, 0, 'n', 20, 0);
        Check.same("T is set ahead of it", works.unset(0), 2);
        Check.same("T is not set", works.unset(1), 3);
        works.write(20, 0, 0, 15, 0, 'c', 30, 0);
        works.write(21, 0, 0, 0, 1, 'e', 0, 0);
        works.write(30, 2, 0, 0, 0, 'r', 0, 0);
        Check.same("all set ahead of both", works.unset(20), 0);
        works.write(20, 0, 0, 1, 0, 'c', 30, 0);
        Check.same("at the number and behind", works.unset(20), 2 + 4);
        works.write(30, 0, 0, 15, 0, 'r', 0, 0);
        Check.same("what is called sets nothing for the way behind", works.unset(20), 4);
        for (char order : "rdpeskgq".toCharArray()) {
            works.write(40, 0, 0, 0, 0, order, 41, 0);
            works.write(41, 1, 0, 0, 0, 'e', 0, 0);
            Check.same("a way ends at " + order, works.unset(40), 0);
            Check.same("reached " + order, works.reached(40), 1);
        }
        works.write(50, 0, 0, 2, 0, 'o', 52, House.TEST_Z);
        works.write(52, 0, 0, 1, 0, 'n', 54, 0);
        works.write(53, 0, 0, 0, 0, 'n', 54, 0);
        works.write(54, 3, 0, 0, 0, 'e', 0, 0);
        Check.same("unset on some way alone", works.unset(50), 1);
        works.write(54, 0, 0, 1, 0, 'n', 55, 0);
        works.write(55, 1, 0, 0, 0, 'n', 53, 0);
        Check.same("round and round", works.unset(50), 0);
        works.setCatch(54, 70);
        works.patch(70, 55, 54);
        Check.same("catches are followed", works.unset(50), 1);
        Check.same("not for the address itself", works.unset(54), 0);
    }

    private static void promise28And29Refuse() {
        Refusal.check("unset -1", Scene::begun, INDEX, works -> works.unset(-1));
        Refusal.check("unset 80", Scene::begun, INDEX, works -> works.unset(80));
        Refusal.check("reached -1", Scene::begun, INDEX, works -> works.reached(-1));
        Refusal.check("reached 80", Scene::begun, INDEX, works -> works.reached(80));
    }

    private static void promise28And29ChangeNothing() {
        MicrostoreWorks works = Scene.begun();
        Check.same("no word", works.unset(78), 0);
        works.unset(0);
        works.reached(0);
        Check.same("asking changes nothing", Look.at(works), Look.at(Scene.begun()));
    }

    private static void promise29Reached() {
        MicrostoreWorks works = new MicrostoreWorks();
        Check.same("no word", works.reached(0), 0);
        for (int address = 0; address < 64; address++) {
            works.write(address, 0, 0, 0, 0, 'n', (address + 1) % 64, 0);
        }
        Check.same("all round", works.reached(63), 64);
        works.write(63, 0, 0, 0, 0, 'o', 72, 14);
        for (int address = 64; address < 80; address++) {
            works.patch(address, 0, address);
        }
        Check.same("to all eight by three tests", works.reached(62), 10);
        works.write(63, 0, 0, 0, 0, 'o', 72, House.TEST_Z + House.TEST_INTERRUPT);
        Check.same("to four by two", works.reached(63), 5);
        works.write(63, 0, 0, 0, 0, 'o', 79, 14);
        Check.same("all bits are set", works.reached(63), 2);
        works.write(62, 0, 0, 0, 0, 'c', 62, 0);
        works.patch(79, 62, 79);
        Check.same("a call of itself goes on behind", works.reached(62), 3);
        Check.same("behind 79 there is none", works.reached(79), 1);
        Check.same("all from 0", works.reached(0), 65);
    }

    private static void promise29Catches() {
        MicrostoreWorks works = new MicrostoreWorks();
        works.write(0, 0, 0, 0, 0, 'c', 5, 0);
        works.write(1, 0, 0, 0, 0, 'e', 0, 0);
        works.write(5, 0, 0, 0, 0, 'n', 1, 0);
        works.patch(64, 5, 2);
        works.patch(65, 1, 0);
        Check.same("without catches", works.reached(0), 3);
        works.setCatch(5, 64);
        Check.same("the number is caught", works.reached(0), 3);
        works.setCatch(1, 65);
        Check.same("behind the call is caught, too", works.reached(0), 3);
        works.setCatch(64, 70);
        Check.same("not followed twice", works.reached(0), 3);
        works.setCatch(0, 79);
        Check.same("the address itself is not caught", works.reached(0), 3);
        works.setCatch(5, 70);
        Check.same("caught to where no word is", works.reached(0), 2);
    }
}
