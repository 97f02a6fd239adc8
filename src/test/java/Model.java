import java.util.ArrayList;
import java.util.HashMap;
import java.util.HashSet;
import java.util.List;
import java.util.Map;
import java.util.NoSuchElementException;
import java.util.Set;

/**
 * The document written a second time, slowly and plainly: whole copies instead of what was written, hash maps
 * instead of rows, sets of ways instead of sums. It shares no code with the class.
 */
final class Model {
    private static final class Word {
        int drive, combine, listen, memory, number, more, constant;
        char order;
    }

    final Map<Integer, Word> words = new HashMap<>();
    final Set<Integer> reserved = new HashSet<>();
    final Map<Integer, Integer> entries = new HashMap<>();
    final Map<Integer, Integer> catches = new HashMap<>();
    final Set<Integer> absent = new HashSet<>();
    final Map<Integer, Long> cyclesOf = new HashMap<>();
    Map<Character, Integer> visible = new HashMap<>();
    Map<Character, Integer> keptVisible;
    final Map<Character, Integer> hidden = new HashMap<>();
    int[] cells = new int[64];
    int[] keptCells;
    final List<Integer> row = new ArrayList<>();
    int[] told = null;
    int next = 0, wait = 0, vector = 48, bus = 0, drivers = 0, ended = 0, wrong = 0, firstWrong = 0;
    int fights = 0, faults = 0, taken = 0, found = 0, awaited = -1;
    long cycles = 0, used = 0, open = 0;
    char state = 'r';
    boolean begun = false, asked = false;

    Model() {
        for (char part : "PZCSIK0123".toCharArray()) {
            visible.put(part, 0);
        }
        for (char part : "TUADXE".toCharArray()) {
            hidden.put(part, 0);
        }
        beginInstruction();
    }

    private static void index(int value, int least, int most) {
        if (value < least || value > most) {
            throw new IndexOutOfBoundsException();
        }
    }

    private static void range(int value, int least, int most) {
        if (value < least || value > most) {
            throw new IllegalArgumentException();
        }
    }

    // ---- micro-words

    int write(int address, int drive, int combine, int listen, int memory, char order, int number, int more) {
        index(address, 0, 63);
        range(combine, 0, 7);
        range(number, 0, 79);
        range(more, 0, 15);
        if (reason(drive, listen, memory, order, more / 2) != '-') {
            throw new UnsupportedOperationException();
        }
        Word word = new Word();
        word.drive = drive;
        word.combine = combine;
        word.listen = listen;
        word.memory = memory;
        word.order = order;
        word.number = number;
        word.more = more;
        words.put(address, word);
        return words.size();
    }

    int patch(int address, int from, int number) {
        index(address, 64, 79);
        index(from, 0, 79);
        range(number, 0, 79);
        Word old = words.get(from);
        if (old == null) {
            throw new NoSuchElementException();
        }
        Word word = new Word();
        word.drive = old.drive;
        word.combine = old.combine;
        word.listen = old.listen;
        word.memory = old.memory;
        word.order = old.order;
        word.more = old.more;
        word.constant = old.constant;
        word.number = number;
        words.put(address, word);
        return words.size();
    }

    int setConstant(int address, int constant) {
        index(address, 0, 79);
        range(constant, 0, 255);
        if (!words.containsKey(address)) {
            throw new NoSuchElementException();
        }
        int before = words.get(address).constant;
        words.get(address).constant = constant;
        return before;
    }

    char reason(int drive, int listen, int memory, char order, int tests) {
        range(drive, 0, 127);
        range(listen, 0, 255);
        range(memory, 0, 2);
        range(tests, 0, 7);
        if ("nocrdpeskgq".indexOf(order) == -1) {
            throw new IllegalArgumentException();
        }
        boolean calls = order == 'c' || order == 'r';
        return memory == 1 && (listen & 8) == 8 ? 'd'
            : (listen & 96) == 96 ? 'r'
            : calls && memory > 0 ? 'm'
            : tests > 0 && order != 'o' ? 't'
            : drive >= 64 && order == 'o' ? 'k' : '-';
    }

    int reserve(int count) {
        if (!Set.of(1, 2, 4, 8).contains(count)) {
            throw new IllegalArgumentException();
        }
        for (int first = 0; first < 64; first++) {
            boolean fits = first % count == 0;
            for (int i = 0; i < count && fits; i++) {
                fits = !words.containsKey(first + i) && !reserved.contains(first + i);
            }
            if (fits) {
                for (int i = 0; i < count; i++) {
                    reserved.add(first + i);
                }
                return first;
            }
        }
        throw new IllegalStateException();
    }

    int free() {
        Set<Integer> not = new HashSet<>(reserved);
        not.addAll(words.keySet());
        not.removeIf(address -> address >= 64);
        return 64 - not.size();
    }

    int setEntry(int set, int operation, int address) {
        index(set, 0, 1);
        index(operation, 0, 15);
        range(address, -1, 79);
        Integer before = entries.put(set * 100 + operation, address);
        return before == null ? -1 : before;
    }

    int setCatch(int address, int to) {
        index(address, 0, 79);
        if (to != -1) {
            range(to, 64, 79);
        }
        if (to == -1) {
            if (catches.remove(address) == null) {
                throw new NoSuchElementException();
            }
            return catches.size();
        }
        Set<Integer> others = new HashSet<>(catches.keySet());
        others.remove(address);
        if (others.size() == 4) {
            throw new IllegalStateException();
        }
        catches.put(address, to);
        return catches.size();
    }

    // ---- programs and what comes from outside

    private void notBegun() {
        if (begun) {
            throw new IllegalStateException();
        }
    }

    int setCell(int cell, int value) {
        index(cell, 0, 63);
        range(value, 0, 255);
        notBegun();
        int before = cells[cell];
        cells[cell] = value;
        keep();
        return before;
    }

    int setRegister(int register, int value) {
        index(register, 0, 3);
        range(value, 0, 255);
        notBegun();
        int before = visible.put((char) ('0' + register), value);
        keep();
        return before;
    }

    int start(int place, int set, boolean isOpen) {
        range(place, 0, 63);
        range(set, 0, 1);
        notBegun();
        int before = visible.put('P', place);
        visible.put('S', set);
        visible.put('I', isOpen ? 1 : 0);
        keep();
        return before;
    }

    boolean setPage(int page, boolean isPresent) {
        index(page, 0, 3);
        boolean before = !absent.contains(page);
        if (isPresent) {
            absent.remove(page);
            if (state == 'w' && awaited == page) {
                state = 'r';
            }
        } else {
            absent.add(page);
        }
        return before;
    }

    int setWait(int value) {
        range(value, 0, 9);
        int before = wait;
        wait = value;
        return before;
    }

    int setVector(int place) {
        range(place, 0, 63);
        int before = vector;
        vector = place;
        return before;
    }

    boolean interrupt() {
        boolean before = asked;
        asked = true;
        return before;
    }

    int reset() {
        int before = next;
        takeBack();
        state = state == 'l' ? 'r' : state;
        return before;
    }

    int step(int steps) {
        range(steps, 1, 100);
        int done = 0;
        while (done < steps && microStep()) {
            done++;
        }
        return done;
    }

    int run(int instructions) {
        range(instructions, 1, 20);
        int due = ended + instructions;
        for (int done = 0; done < 200 && ended < due && microStep(); done++) {
            continue;
        }
        return ended - due + instructions;
    }

    // ---- parts

    int cell(int cell) {
        index(cell, 0, 63);
        return cells[cell];
    }

    int register(int register) {
        index(register, 0, 3);
        return visible.get((char) ('0' + register));
    }

    int part(char part) {
        if ("PZCSIKTUADXE".indexOf(part) == -1) {
            throw new IllegalArgumentException();
        }
        if (part == 'Z' || part == 'C') {
            find();
        }
        return hidden.containsKey(part) ? hidden.get(part) : visible.get(part);
    }

    // ---- the checker and definitions

    int unset(int address) {
        index(address, 0, 79);
        int sum = 0;
        String parts = "TUAD";
        for (int i = 0; i < 4; i++) {
            if (isReadAhead(parts.charAt(i), address, new HashSet<>())) {
                sum += 1 << i;
            }
        }
        return sum;
    }

    private boolean isReadAhead(char part, int address, Set<Integer> gone) {
        Word word = words.get(address);
        if (word == null || !gone.add(address)) {
            return false;
        }
        boolean reads;
        boolean sets;
        if (part == 'T') {
            reads = word.drive % 2 == 1 || Set.of(1, 2, 3, 4).contains(word.combine);
            sets = word.listen % 2 == 1;
        } else if (part == 'U') {
            reads = word.drive / 2 % 2 == 1;
            sets = word.listen / 2 % 2 == 1;
        } else if (part == 'A') {
            sets = word.listen / 4 % 2 == 1;
            reads = word.memory != 0 && !sets;
        } else {
            boolean listens = word.listen / 8 % 2 == 1;
            reads = word.drive / 4 % 2 == 1 || word.memory == 2 && !listens;
            sets = listens || word.memory == 1;
        }
        if (reads) {
            return true;
        }
        if (sets) {
            return false;
        }
        for (int to : waysOn(address)) {
            if (isReadAhead(part, to, gone)) {
                return true;
            }
        }
        return false;
    }

    private Set<Integer> waysOn(int address) {
        Set<Integer> ways = new HashSet<>();
        Word word = words.get(address);
        if (word.order == 'n' || word.order == 'c') {
            ways.add(caught(word.number));
        }
        if (word.order == 'c') {
            ways.add(caught(address + 1));
        }
        if (word.order == 'o') {
            for (int choice = 0; choice < 8; choice++) {
                ways.add(caught(word.number | choice & word.more / 2));
            }
        }
        return ways;
    }

    int reached(int address) {
        index(address, 0, 79);
        Set<Integer> gone = new HashSet<>();
        List<Integer> todo = new ArrayList<>(List.of(address));
        while (!todo.isEmpty()) {
            int at = todo.remove(todo.size() - 1);
            if (words.containsKey(at) && gone.add(at)) {
                todo.addAll(waysOn(at));
            }
        }
        return gone.size();
    }

    int defined(char part) {
        if ("PZCSIK0123".indexOf(part) == -1) {
            throw new IllegalArgumentException();
        }
        Map<Character, Integer> after = new HashMap<>(keptVisible);
        if (!define(after, keptCells.clone())) {
            throw new UnsupportedOperationException();
        }
        return after.get(part);
    }

    private static int byteAtP(Map<Character, Integer> parts, int[] memory) {
        int place = parts.get('P');
        parts.put('P', (place + 1) % 64);
        return memory[place];
    }

    /** Changes the parts and the memory as the instruction must; false if it is undefined. */
    private static boolean define(Map<Character, Integer> parts, int[] memory) {
        int set = parts.get('S');
        int x = byteAtP(parts, memory);
        int exchanges = 0;
        while (set == 1 && x / 16 == 15) {
            exchanges++;
            if (exchanges == 64) {
                return false;
            }
            x = byteAtP(parts, memory);
        }
        char d = (char) ('0' + x % 4);
        char s = (char) ('0' + x / 4 % 4);
        if (exchanges % 2 == 1) {
            char swap = d;
            d = s;
            s = swap;
        }
        int operation = set == 0 ? x / 16 : 14 - x / 16;
        int dv = parts.get(d);
        int sv = parts.get(s);
        if (operation == 1) {
            parts.put(d, sv);
        } else if (operation == 2) {
            flagged(parts, d, dv + sv, dv + sv > 255);
        } else if (operation == 3) {
            flagged(parts, d, dv - sv, dv < sv);
        } else if (operation == 4) {
            flagged(parts, d, dv & sv, false);
        } else if (operation == 5) {
            flagged(parts, d, dv + 1, dv == 255);
        } else if (operation == 6) {
            parts.put(d, byteAtP(parts, memory));
        } else if (operation == 7) {
            parts.put(d, memory[sv % 64]);
        } else if (operation == 8) {
            memory[sv % 64] = dv;
        } else if (operation >= 9 && operation <= 11) {
            int to = byteAtP(parts, memory);
            if (operation == 11 || parts.get(operation == 9 ? 'Z' : 'C') == 1) {
                parts.put('P', to % 64);
            }
        } else if (operation == 12) {
            parts.put(d, memory[sv % 64]);
            parts.put(s, (parts.get(s) + 1) % 256);
        } else if (operation == 13) {
            parts.put('S', set == 0 ? 1 : 0);
        } else if (operation == 14) {
            parts.put('P', parts.get('K'));
            parts.put('I', 1);
        } else if (operation == 15) {
            parts.put('I', dv % 2);
        }
        return true;
    }

    private static void flagged(Map<Character, Integer> parts, char d, int result, boolean carry) {
        parts.put(d, Math.floorMod(result, 256));
        parts.put('Z', Math.floorMod(result, 256) == 0 ? 1 : 0);
        parts.put('C', carry ? 1 : 0);
    }

    // ---- counts

    int firstWrong() {
        if (wrong == 0) {
            throw new NoSuchElementException();
        }
        return firstWrong;
    }

    long cyclesOf(int set, int operation) {
        index(set, 0, 1);
        index(operation, 0, 15);
        return cyclesOf.getOrDefault(set * 100 + operation, 0L);
    }

    float usedShare() {
        if (cycles == 0) {
            throw new ArithmeticException();
        }
        return (float) used / (float) cycles;
    }

    double meanCycles() {
        if (ended == 0) {
            throw new ArithmeticException();
        }
        return (double) used / (double) ended;
    }

    // ---- the micro-step

    private void keep() {
        keptVisible = new HashMap<>(visible);
        keptCells = cells.clone();
    }

    private void beginInstruction() {
        keep();
        hidden.put('E', 0);
        row.clear();
        next = 0;
        begun = false;
    }

    private void takeBack() {
        visible = new HashMap<>(keptVisible);
        cells = keptCells.clone();
        told = null;
        beginInstruction();
    }

    private int caught(int address) {
        return catches.getOrDefault(address, address);
    }

    private char registerOf(int which) {
        int x = hidden.get('X');
        boolean low = which == 1 ^ hidden.get('E') == 1;
        return (char) ('0' + (low ? x % 4 : x / 4 % 4));
    }

    private boolean microStep() {
        if (state != 'r') {
            return false;
        }
        Word word = words.get(next);
        if (word == null) {
            takeBack();
            state = 'l';
            return false;
        }
        int at = next;
        begun = true;
        char first = registerOf(1);
        char second = registerOf(2);
        drive(word, first, second);
        int left = hidden.get('T');
        int result = Math.floorMod(combined(word.combine, left, bus), 256);
        if (word.more % 2 == 1) {
            told = new int[] {word.combine, left, bus};
        }
        char[] listeners = {'T', 'U', 'A', 'D', 'P', first, second, 'X'};
        for (int i = 0; i < 8; i++) {
            if ((word.listen >> i & 1) == 1) {
                boolean isPlace = listeners[i] == 'A' || listeners[i] == 'P';
                Map<Character, Integer> holder = hidden.containsKey(listeners[i]) ? hidden : visible;
                holder.put(listeners[i], isPlace ? result % 64 : result);
            }
        }
        int cost = word.memory == 0 ? 1 : 1 + wait;
        cycles += cost;
        open += cost;
        if (word.memory != 0) {
            int place = hidden.get('A');
            if (absent.contains(place / 16)) {
                faults++;
                takeBack();
                state = 'w';
                awaited = place / 16;
                return true;
            }
            if (word.memory == 1) {
                hidden.put('D', cells[place]);
            } else {
                cells[place] = hidden.get('D');
            }
        }
        order(word, at, result);
        return true;
    }

    private void drive(Word word, char first, char second) {
        int[] bytes = {hidden.get('T'), hidden.get('U'), hidden.get('D'), visible.get('P'), visible.get(first),
            visible.get(second), word.constant};
        int count = 0;
        int all = 255;
        for (int i = 0; i < 7; i++) {
            if ((word.drive >> i & 1) == 1) {
                count++;
                all &= bytes[i];
            }
        }
        bus = count == 0 ? 0 : all;
        drivers = word.drive;
        fights += count >= 2 ? 1 : 0;
    }

    private static int combined(int combine, int left, int bus) {
        int[] results = {bus, left + bus, left - bus, left & bus, left ^ bus, bus + 1, bus - 1, bus / 2};
        return results[combine];
    }

    private void find() {
        if (told == null) {
            return;
        }
        found++;
        int left = told[1];
        int by = told[2];
        boolean[] carries = {false, left + by > 255, left < by, false, false, by == 255, by == 0, by % 2 == 1};
        visible.put('Z', combined(told[0], left, by) % 256 == 0 ? 1 : 0);
        visible.put('C', carries[told[0]] ? 1 : 0);
        told = null;
    }

    private void order(Word word, int at, int result) {
        switch (word.order) {
            case 'n' -> next = caught(word.number);
            case 'o' -> {
                int tests = word.more / 2;
                if (tests % 4 != 0) {
                    find();
                }
                int bits = visible.get('Z') + 2 * visible.get('C') + (asked && visible.get('I') == 1 ? 4 : 0);
                next = caught(word.number | bits & tests);
            }
            case 'c' -> {
                row.add(at + 1);
                if (row.size() > 4) {
                    row.remove(0);
                }
                next = caught(word.number);
            }
            case 'r' -> next = row.isEmpty() ? -1 : caught(row.remove(row.size() - 1));
            case 'd' -> next = caught(entries.getOrDefault(visible.get('S') * 100 + hidden.get('X') / 16, -1));
            case 'p' -> {
                hidden.put('E', 1 - hidden.get('E'));
                next = caught(0);
            }
            case 'q' -> {
                takeBack();
                interruptIfDue();
            }
            default -> {
                if (word.order == 's') {
                    visible.put('S', 1 - visible.get('S'));
                } else if (word.order == 'k') {
                    visible.put('P', visible.get('K'));
                    visible.put('I', 1);
                } else if (word.order == 'g') {
                    visible.put('I', result % 2);
                }
                endInstruction();
            }
        }
    }

    private void endInstruction() {
        find();
        Map<Character, Integer> due = new HashMap<>(keptVisible);
        int[] dueCells = keptCells.clone();
        boolean right = define(due, dueCells) && due.equals(visible) && java.util.Arrays.equals(dueCells, cells);
        ended++;
        if (!right) {
            firstWrong = wrong == 0 ? keptVisible.get('P') : firstWrong;
            wrong++;
        }
        cyclesOf.merge(keptVisible.get('S') * 100 + hidden.get('X') / 16, open, Long::sum);
        used += open;
        open = 0;
        beginInstruction();
        interruptIfDue();
    }

    private void interruptIfDue() {
        if (asked && visible.get('I') == 1) {
            visible.put('K', visible.get('P'));
            visible.put('P', vector);
            visible.put('S', 0);
            visible.put('I', 0);
            asked = false;
            taken++;
            beginInstruction();
        }
    }
}
