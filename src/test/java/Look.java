import java.util.function.IntSupplier;

/** All that an object tells, as one text. */
final class Look {
    /** By calls that change nothing. */
    static String at(MicrostoreWorks works) {
        StringBuilder text = new StringBuilder();
        text.append(works.state()).append(' ').append(works.next()).append(' ').append(works.returns());
        text.append(' ').append(works.bus()).append(' ').append(works.drivers()).append(' ').append(works.free());
        // Z and C are left out: asking for them finds the flags.
        for (char part : "PSIKTUADXE".toCharArray()) {
            text.append(' ').append(part).append(works.part(part));
        }
        for (int i = 0; i < 4; i++) {
            text.append(" r").append(works.register(i));
        }
        for (int i = 0; i < 64; i++) {
            text.append(' ').append(works.cell(i));
        }
        for (int i = 0; i < 80; i++) {
            text.append(" w").append(works.reached(i)).append(',').append(works.unset(i));
        }
        text.append(' ').append(works.ended()).append(' ').append(works.wrong()).append(' ').append(works.fights());
        text.append(' ').append(works.faults()).append(' ').append(works.taken()).append(' ').append(works.found());
        text.append(' ').append(works.cycles());
        text.append(' ').append(works.wrong() == 0 ? "" : works.firstWrong());
        text.append(' ').append(works.cycles() == 0 ? "" : works.usedShare());
        text.append(' ').append(works.ended() == 0 ? "" : works.meanCycles());
        for (int i = 0; i < 32; i++) {
            text.append(' ').append(works.cyclesOf(i / 16, i % 16));
        }
        for (char part : "PZCSIK0123".toCharArray()) {
            text.append(' ').append(answer(() -> works.defined(part)));
        }
        return text.append(' ').append(works.isSound()).toString();
    }

    /** By calls that change it: how it goes on, and what else was set. */
    static String into(MicrostoreWorks works) {
        StringBuilder text = new StringBuilder();
        text.append(works.part('Z')).append(works.part('C')).append(' ').append(works.found());
        text.append(' ').append(answer(() -> works.setRegister(0, 9)));
        for (int i = 0; i < 12; i++) {
            text.append(' ').append(works.step(1)).append(works.state()).append(works.next());
            text.append(',').append(works.bus()).append(',').append(works.drivers());
        }
        text.append(' ').append(works.reset()).append(takenBack(works));
        text.append(' ').append(works.wrong() == 0 ? "" : works.firstWrong());
        text.append(' ').append(works.setWait(0)).append(' ').append(works.setVector(0));
        text.append(' ').append(works.interrupt());
        for (int page = 0; page < 4; page++) {
            text.append(' ').append(works.setPage(page, true));
        }
        for (int i = 0; i < 32; i++) {
            text.append(' ').append(works.setEntry(i / 16, i % 16, -1));
        }
        for (int i = 0; i < 80; i++) {
            int address = i;
            text.append(' ').append(answer(() -> works.setCatch(address, -1)));
            text.append(' ').append(answer(() -> works.setConstant(address, 0)));
        }
        text.append(' ').append(works.setCatch(0, 64)).append(' ').append(works.cycles() == 0 ? "" : works.usedShare());
        return text.append(reservable(works)).append(' ').append(works.write(0, 0, 0, 0, 0, 'e', 0, 0)).toString();
    }

    /** What was kept when the instruction began: now that it is taken back, the visible parts and cells are it. */
    private static String takenBack(MicrostoreWorks works) {
        StringBuilder text = new StringBuilder();
        for (char part : "PZCSIK".toCharArray()) {
            text.append(' ').append(part).append(works.part(part));
        }
        for (int i = 0; i < 4; i++) {
            text.append(" r").append(works.register(i));
        }
        for (int i = 0; i < 64; i++) {
            text.append(' ').append(works.cell(i));
        }
        return text.toString();
    }

    private static String reservable(MicrostoreWorks works) {
        StringBuilder text = new StringBuilder();
        for (int left = works.free(); left > 0; left--) {
            text.append(' ').append(works.reserve(1));
        }
        return text.toString();
    }

    private static String answer(IntSupplier call) {
        try {
            return String.valueOf(call.getAsInt());
        } catch (RuntimeException thrown) {
            return thrown.getClass().getSimpleName();
        }
    }
}
