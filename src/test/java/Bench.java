/** Small micro-programs that the tests of boundaries need again and again. */
final class Bench {
    static final String ORDERS = "nocrdpeskgq";
    static final String PARTS = "PZCSIKTUADXE";

    /** A word whose constant is what the parts hear, and that goes on at the address behind it. */
    static void put(MicrostoreWorks works, int address, int constant, int listen) {
        works.write(address, House.CONSTANT, 0, listen, 0, 'n', address + 1, 0);
        works.setConstant(address, constant);
    }

    /** One micro-step was done: these parts have heard the constant. The next address is 1. */
    static MicrostoreWorks heard(int constant, int listen) {
        MicrostoreWorks works = new MicrostoreWorks();
        put(works, 0, constant, listen);
        works.step(1);
        return works;
    }

    /** Two micro-steps were done: U has heard the left byte, which T holds, combined with the one of the bus. */
    static MicrostoreWorks combined(int combine, int left, int bus, int more) {
        MicrostoreWorks works = new MicrostoreWorks();
        put(works, 0, left, House.TO_T);
        works.write(1, House.CONSTANT, combine, House.TO_U, 0, 'n', 2, more);
        works.setConstant(1, bus);
        works.step(2);
        return works;
    }

    /** Words from this address on that make Z and C, and go on behind the second one. */
    static void putFlags(MicrostoreWorks works, int address, int zero, int carry) {
        int[] left = {1, 200, 0, 255};
        int[] bus = {0, 100, 0, 1};
        int which = 2 * zero + carry;
        put(works, address, left[which], House.TO_T);
        works.write(address + 1, House.CONSTANT, 1, 0, 0, 'n', address + 2, House.FLAGS);
        works.setConstant(address + 1, bus[which]);
    }

    /** Z and C as one number, 2 times Z plus C. */
    static int flags(MicrostoreWorks works) {
        return 2 * works.part('Z') + works.part('C');
    }

    /** K is this place, by an interrupt; then P is the place 0, and S and I are 0. */
    static void keepPlace(MicrostoreWorks works, int place) {
        works.write(0, 0, 0, 0, 0, 'e', 0, 0);
        works.start(place, 0, true);
        works.interrupt();
        works.step(1);
        works.start(0, 0, false);
    }
}
