/** All that an object tells, as one text. */
final class Look {
    /** By calls that change nothing. */
    static String at(MicrostoreWorks works) {
        StringBuilder text = new StringBuilder();
        text.append(works.state()).append(' ').append(works.next()).append(' ').append(works.returns());
        text.append(' ').append(works.bus()).append(' ').append(works.drivers()).append(' ').append(works.free());
        // Z and C are left out: asking for them finds the flags.
        for (char part : "PSIKTUADXE".toCharArray()) {
            text.append(' ').append(part).append(works.part(part));
        }
        for (int i = 0; i < 4; i++) {
            text.append(" r").append(works.register(i));
        }
        for (int i = 0; i < 64; i++) {
            text.append(' ').append(works.cell(i));
        }
        for (int i = 0; i < 80; i++) {
            text.append(" w").append(works.reached(i)).append(',').append(works.unset(i));
        }
        text.append(' ').append(works.ended()).append(' ').append(works.wrong()).append(' ').append(works.fights());
        text.append(' ').append(works.faults()).append(' ').append(works.taken()).append(' ').append(works.found());
        text.append(' ').append(works.cycles());
        for (int i = 0; i < 32; i++) {
            text.append(' ').append(works.cyclesOf(i / 16, i % 16));
        }
        for (char part : "PZCSIK0123".toCharArray()) {
            text.append(' ').append(definedOrNone(works, part));
        }
        return text.append(' ').append(works.isSound()).toString();
    }

    /** By calls that change it: how it goes on, and what else was set. */
    static String into(MicrostoreWorks works) {
        StringBuilder text = new StringBuilder();
        text.append(works.part('Z')).append(works.part('C')).append(' ').append(works.found());
        for (int i = 0; i < 12; i++) {
            text.append(' ').append(works.step(1)).append(works.state()).append(works.next());
            text.append(',').append(works.bus()).append(',').append(works.drivers());
        }
        text.append(' ').append(works.reset());
        text.append(' ').append(works.wrong() == 0 ? -1 : works.firstWrong());
        text.append(' ').append(works.setWait(0)).append(' ').append(works.setVector(0));
        text.append(' ').append(works.interrupt());
        for (int page = 0; page < 4; page++) {
            text.append(' ').append(works.setPage(page, true));
        }
        for (int i = 0; i < 32; i++) {
            text.append(' ').append(works.setEntry(i / 16, i % 16, -1));
        }
        for (int i = 0; i < 80; i++) {
            int address = i;
            text.append(' ').append(Check.nameOfThrown(() -> works.setCatch(address, -1)).equals("nothing"));
            text.append(' ').append(works.reached(address) == 0 ? -1 : works.setConstant(address, 0));
        }
        return text.append(reservable(works)).toString();
    }

    private static String reservable(MicrostoreWorks works) {
        StringBuilder text = new StringBuilder();
        for (int left = works.free(); left > 0; left--) {
            text.append(' ').append(works.reserve(1));
        }
        return text.toString();
    }

    private static int definedOrNone(MicrostoreWorks works, char part) {
        try {
            return works.defined(part);
        } catch (UnsupportedOperationException thrown) {
            return -1;
        }
    }
}
