/** Long rows of calls on the class and on the model: each answer and each exception must be the same. */
public final class ModelTest {
    private static final int ROUNDS = 3000;
    private static final int CALLS = 512;

    private interface Asked {
        Object ask();
    }

    private final MicrostoreWorks works = new MicrostoreWorks();
    private final Model model = new Model();
    private final int round;
    private final int[] answered;
    private long seed;
    private int call;

    private ModelTest(int number, int[] answers) {
        round = number;
        answered = answers;
        seed = number * 0x9E3779B97F4A7C15L + 12345;
    }

    public static void main(String[] args) {
        int[] answers = new int[64];
        for (int round = 0; round < ROUNDS; round++) {
            new ModelTest(round, answers).play();
        }
        for (int i = 0; i < 41; i++) {
            Check.same("call " + i + " has answered often", answers[i] > 100, true);
        }
        Check.finish();
    }

    /** A number from 0 up to below the bound, the same one each time that the tests run. */
    private int pick(int bound) {
        seed ^= seed << 13;
        seed ^= seed >>> 7;
        seed ^= seed << 17;
        return (int) Math.floorMod(seed >>> 8, (long) bound);
    }

    private boolean once(int in) {
        return pick(in) == 0;
    }

    /** A number below the bound, and now and then one that is out of it. */
    private int near(int bound) {
        return once(40) ? (once(2) ? -1 - pick(3) : bound + pick(3)) : pick(bound);
    }

    private void same(int which, Asked ofWorks, Asked ofModel) {
        call++;
        String got = answer(ofWorks);
        Check.same("round " + round + " call " + call + " kind " + which, got, answer(ofModel));
        if (!got.startsWith("throws")) {
            answered[which]++;
        }
    }

    private static String answer(Asked asked) {
        try {
            return String.valueOf(asked.ask());
        } catch (RuntimeException thrown) {
            return "throws " + thrown.getClass().getName();
        }
    }

    private void play() {
        boolean hasHouse = round % 3 != 0;
        if (hasHouse) {
            furnish();
        }
        for (int i = 0; i < (hasHouse ? 10 : 50); i++) {
            writeSome();
        }
        while (call < CALLS - 41) {
            int kind = pick(100);
            if (kind < 12) {
                writeSome();
            } else if (kind < 40) {
                setSome();
            } else if (kind < 70) {
                goOn();
            } else {
                askOne(pick(24));
            }
        }
        for (int i = 0; i < 24; i++) {
            askOne(i);
        }
    }

    private void write(int address, int drive, int combine, int listen, int memory, char order, int number, int more) {
        same(0, () -> works.write(address, drive, combine, listen, memory, order, number, more),
            () -> model.write(address, drive, combine, listen, memory, order, number, more));
    }

    private void setEntry(int set, int operation, int address) {
        same(6, () -> works.setEntry(set, operation, address), () -> model.setEntry(set, operation, address));
    }

    /** The routines of the house that need few words, so that calls are left. */
    private void furnish() {
        write(0, 8, 0, 4, 1, 'n', 1, 0);
        write(1, 4, 0, 128, 0, 'n', 2, 0);
        write(2, 8, 5, 16, 0, 'd', 0, 0);
        write(3, 0, 0, 0, 0, 'e', 0, 0);
        write(4, 32, 0, 32, 0, 'e', 0, 0);
        write(5, 16, 0, 1, 0, 'n', 6, 0);
        write(6, 32, 1 + pick(3), 32, 0, 'e', 0, 1);
        write(7, 16, 5, 32, 0, 'e', 0, 1);
        write(8, 16, 0, 8, 0, 'n', 9, 0);
        write(9, 32, 0, 4, 2, 'e', 0, 0);
        write(10, 8, 0, 4, 1, 'n', 11, 0);
        write(11, 8, 5, 16, 0, 'o', 12, 2 + 2 * pick(2));
        write(12, 0, 0, 0, 0, 'e', 0, 0);
        write(13, 4, 0, 16, 0, 'e', 0, 0);
        write(14, 4, 0, 16, 0, 'e', 0, 0);
        write(15, 0, 0, 0, 0, "skgp".charAt(pick(4)), 0, 0);
        write(16, 32, 0, 4, 1, 'n', 17, 0);
        write(17, 4, 0, 32, 0, 'n', 18, 0);
        write(18, 32, 5, 64, 0, 'e', 0, 0);
        write(19, 0, 0, 0, 0, 'p', 0, 0);
        int[] routines = {3, 4, 5, 5, 5, 7, 12, 16, 8, 10, 10, 10, 16, 15, 15, 15};
        for (int operation = 0; operation < 16; operation++) {
            setEntry(0, operation, routines[operation]);
            setEntry(1, operation, operation == 15 ? 19 : routines[14 - operation]);
        }
        for (int i = 0; i < 24; i++) {
            setCell(i, pick(256));
        }
    }

    private void writeSome() {
        int kind = pick(16);
        if (kind < 9) {
            char order = once(60) ? (char) pick(300) : "nnnnnoooocccrrdpeskgqq".charAt(pick(22));
            int memory = once(3) ? near(3) : 0;
            int drive = once(5) ? near(128) : once(4) ? 0 : 1 << pick(7);
            int listen = once(5) ? near(256) : once(4) ? 0 : 1 << pick(8);
            int more = (order == 'o' ? 2 * near(8) : 0) + pick(2);
            write(near(64), drive, near(8), listen, memory, order, near(80), once(30) ? near(16) : more);
        } else if (kind < 11) {
            int address = 64 + near(16);
            int from = near(80);
            int number = near(80);
            same(1, () -> works.patch(address, from, number), () -> model.patch(address, from, number));
        } else if (kind < 13) {
            int address = near(80);
            int constant = near(256);
            same(2, () -> works.setConstant(address, constant), () -> model.setConstant(address, constant));
        } else if (kind < 14) {
            setEntry(near(2), near(16), near(80));
        } else if (kind < 15) {
            int address = once(2) ? pick(8) : near(80);
            int to = once(4) ? -1 : 64 + near(16);
            same(7, () -> works.setCatch(address, to), () -> model.setCatch(address, to));
        } else {
            int count = once(5) ? near(10) : 1 << pick(4);
            same(4, () -> works.reserve(count), () -> model.reserve(count));
        }
    }

    private void setCell(int cell, int value) {
        same(8, () -> works.setCell(cell, value), () -> model.setCell(cell, value));
    }

    private void setSome() {
        int kind = pick(12);
        int first = near(4);
        int value = near(256);
        boolean flag = once(2);
        if (kind < 3) {
            setCell(near(64), value);
        } else if (kind < 5) {
            same(9, () -> works.setRegister(first, value), () -> model.setRegister(first, value));
        } else if (kind < 6) {
            int place = near(64);
            int set = near(2);
            same(10, () -> works.start(place, set, flag), () -> model.start(place, set, flag));
        } else if (kind < 8) {
            boolean isPresent = !once(3);
            same(11, () -> works.setPage(first, isPresent), () -> model.setPage(first, isPresent));
        } else if (kind < 9) {
            int cycles = near(10);
            same(12, () -> works.setWait(cycles), () -> model.setWait(cycles));
        } else if (kind < 10) {
            int place = near(64);
            same(13, () -> works.setVector(place), () -> model.setVector(place));
        } else {
            same(14, () -> works.interrupt(), () -> model.interrupt());
        }
    }

    private void goOn() {
        int kind = pick(10);
        if (kind < 2 || model.state == 'l' && once(2)) {
            same(15, () -> works.reset(), () -> model.reset());
        } else if (kind < 7) {
            int steps = once(20) ? near(101) : 1 + pick(6);
            same(16, () -> works.step(steps), () -> model.step(steps));
        } else {
            int instructions = once(20) ? near(21) : 1 + pick(3);
            same(17, () -> works.run(instructions), () -> model.run(instructions));
        }
    }

    private void askOne(int which) {
        int cell = near(64);
        int address = near(80);
        char part = once(40) ? (char) pick(300) : "PZCSIKTUADXE".charAt(pick(12));
        char defined = once(40) ? (char) pick(300) : "PZCSIK0123".charAt(pick(10));
        int four = near(4);
        switch (which) {
            case 0 -> same(18, () -> works.state(), () -> model.state);
            case 1 -> same(19, () -> works.cell(cell), () -> model.cell(cell));
            case 2 -> same(20, () -> works.register(four), () -> model.register(four));
            case 3 -> same(21, () -> works.part(part), () -> model.part(part));
            case 4 -> same(22, () -> works.next(), () -> model.next);
            case 5 -> same(23, () -> works.returns(), () -> model.row.size());
            case 6 -> same(24, () -> works.bus(), () -> model.bus);
            case 7 -> same(25, () -> works.drivers(), () -> model.drivers);
            case 8 -> same(26, () -> works.unset(address), () -> model.unset(address));
            case 9 -> same(27, () -> works.reached(address), () -> model.reached(address));
            case 10 -> same(28, () -> works.defined(defined), () -> model.defined(defined));
            case 11 -> same(29, () -> works.ended(), () -> model.ended);
            case 12 -> same(30, () -> works.wrong(), () -> model.wrong);
            case 13 -> same(31, () -> works.firstWrong(), () -> model.firstWrong());
            case 14 -> same(32, () -> works.fights(), () -> model.fights);
            case 15 -> same(33, () -> works.faults(), () -> model.faults);
            case 16 -> same(34, () -> works.taken(), () -> model.taken);
            case 17 -> same(35, () -> works.found(), () -> model.found);
            case 18 -> same(36, () -> works.cycles(), () -> model.cycles);
            case 19 -> {
                int operation = near(16);
                int set = near(2);
                same(37, () -> works.cyclesOf(set, operation), () -> model.cyclesOf(set, operation));
            }
            case 20 -> same(38, () -> works.usedShare(), () -> model.usedShare());
            case 21 -> same(39, () -> works.meanCycles(), () -> model.meanCycles());
            case 22 -> {
                same(40, () -> works.isSound(), () -> true);
                same(5, () -> works.free(), () -> model.free());
            }
            default -> {
                int drive = near(128);
                int listen = near(256);
                int memory = near(3);
                char order = "nocrdpeskgqx".charAt(pick(12));
                int tests = near(8);
                same(3, () -> works.reason(drive, listen, memory, order, tests),
                    () -> model.reason(drive, listen, memory, order, tests));
            }
        }
    }
}
