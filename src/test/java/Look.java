/** All that calls which change nothing tell of an object, as one text. */
final class Look {
    static String at(MicrostoreWorks works) {
        StringBuilder text = new StringBuilder();
        text.append(works.state()).append(' ').append(works.next()).append(' ').append(works.returns());
        text.append(' ').append(works.bus()).append(' ').append(works.drivers()).append(' ').append(works.free());
        // Z and C are left out: asking for them finds the flags.
        for (char part : "PSIKTUADXE".toCharArray()) {
            text.append(' ').append(part).append(works.part(part));
        }
        for (int i = 0; i < 4; i++) {
            text.append(" r").append(works.register(i));
        }
        for (int i = 0; i < 64; i++) {
            text.append(' ').append(works.cell(i));
        }
        for (int i = 0; i < 80; i++) {
            text.append(" w").append(works.reached(i)).append(',').append(works.unset(i));
        }
        text.append(' ').append(works.ended()).append(' ').append(works.wrong()).append(' ').append(works.fights());
        text.append(' ').append(works.faults()).append(' ').append(works.taken()).append(' ').append(works.found());
        text.append(' ').append(works.cycles());
        for (int i = 0; i < 32; i++) {
            text.append(' ').append(works.cyclesOf(i / 16, i % 16));
        }
        for (char part : "PZCSIK0123".toCharArray()) {
            text.append(' ').append(definedOrNone(works, part));
        }
        return text.append(' ').append(works.isSound()).toString();
    }

    private static int definedOrNone(MicrostoreWorks works, char part) {
        try {
            return works.defined(part);
        } catch (UnsupportedOperationException thrown) {
            return -1;
        }
    }
}
