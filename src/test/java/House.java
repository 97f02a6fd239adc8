/** Micro-words that do both sets of instructions as they are defined, for tests that need programs to run. */
final class House {
    static final int T = 1, U = 2, D = 4, P = 8, FIRST = 16, SECOND = 32, CONSTANT = 64;
    static final int TO_T = 1, TO_U = 2, TO_A = 4, TO_D = 8, TO_P = 16, TO_FIRST = 32, TO_SECOND = 64, TO_X = 128;
    static final int READ = 1, WRITE = 2;
    static final int FLAGS = 1, TEST_Z = 2, TEST_C = 4, TEST_INTERRUPT = 8;

    /** The first address of the routine for each operation of the set 0. */
    static final int[] ROUTINES = {3, 4, 5, 7, 9, 11, 12, 15, 17, 20, 24, 28, 31, 34, 35, 36};
    /** How many micro-steps an instruction of the set 0 takes, jumps taken. */
    static final int[] STEPS = {4, 4, 5, 5, 5, 4, 6, 5, 5, 6, 6, 6, 6, 4, 4, 4};

    static MicrostoreWorks make() {
        MicrostoreWorks works = new MicrostoreWorks();
        fill(works);
        return works;
    }

    static void fill(MicrostoreWorks works) {
        works.write(0, P, 0, TO_A, READ, 'n', 1, 0);
        works.write(1, D, 0, TO_X, 0, 'n', 2, 0);
        works.write(2, P, 5, TO_P, 0, 'd', 0, 0);
        works.write(3, 0, 0, 0, 0, 'e', 0, 0);
        works.write(4, SECOND, 0, TO_FIRST, 0, 'e', 0, 0);
        twoSteps(works, 5, 1);
        twoSteps(works, 7, 2);
        twoSteps(works, 9, 3);
        works.write(11, FIRST, 5, TO_FIRST, 0, 'e', 0, FLAGS);
        works.write(12, P, 0, TO_A, READ, 'n', 13, 0);
        works.write(13, P, 5, TO_P, 0, 'n', 14, 0);
        works.write(14, D, 0, TO_FIRST, 0, 'e', 0, 0);
        works.write(15, SECOND, 0, TO_A, READ, 'n', 16, 0);
        works.write(16, D, 0, TO_FIRST, 0, 'e', 0, 0);
        works.write(17, FIRST, 0, TO_D, 0, 'n', 18, 0);
        works.write(18, SECOND, 0, TO_A, WRITE, 'e', 0, 0);
        works.write(20, P, 0, TO_A, READ, 'n', 21, 0);
        works.write(21, P, 5, TO_P, 0, 'o', 38, TEST_Z);
        works.write(24, P, 0, TO_A, READ, 'n', 25, 0);
        works.write(25, P, 5, TO_P, 0, 'o', 40, TEST_C);
        works.write(28, P, 0, TO_A, READ, 'n', 29, 0);
        works.write(29, P, 5, TO_P, 0, 'n', 30, 0);
        works.write(30, D, 0, TO_P, 0, 'e', 0, 0);
        works.write(31, SECOND, 0, TO_A, READ, 'n', 32, 0);
        works.write(32, D, 0, TO_FIRST, 0, 'n', 33, 0);
        works.write(33, SECOND, 5, TO_SECOND, 0, 'e', 0, 0);
        works.write(34, 0, 0, 0, 0, 's', 0, 0);
        works.write(35, 0, 0, 0, 0, 'k', 0, 0);
        works.write(36, FIRST, 0, 0, 0, 'g', 0, 0);
        works.write(37, 0, 0, 0, 0, 'p', 0, 0);
        works.write(38, 0, 0, 0, 0, 'e', 0, 0);
        works.write(39, D, 0, TO_P, 0, 'e', 0, 0);
        works.write(40, 0, 0, 0, 0, 'e', 0, 0);
        works.write(42, D, 0, TO_P, 0, 'e', 0, 0);
        for (int operation = 0; operation < 16; operation++) {
            works.setEntry(0, operation, ROUTINES[operation]);
            works.setEntry(1, operation, operation == 15 ? 37 : ROUTINES[14 - operation]);
        }
    }

    static void load(MicrostoreWorks works, int from, int... bytes) {
        for (int i = 0; i < bytes.length; i++) {
            works.setCell((from + i) % 64, bytes[i]);
        }
    }

    /** The byte of an instruction with a first register d and a second one s. */
    static int code(int operation, int d, int s) {
        return 16 * operation + 4 * s + d;
    }

    private static void twoSteps(MicrostoreWorks works, int address, int combine) {
        works.write(address, FIRST, 0, TO_T, 0, 'n', address + 1, 0);
        works.write(address + 1, SECOND, combine, TO_FIRST, 0, 'e', 0, FLAGS);
    }
}
