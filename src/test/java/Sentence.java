import java.io.IOException;
import java.nio.file.Files;
import java.nio.file.Path;
import java.util.LinkedHashMap;
import java.util.List;
import java.util.Map;

/**
 * The sentence of the document that the checks at hand are for. A sentence that is not in the document, or that
 * has no check, is told as a fault; so is one, when all are through, that neither has a test nor stands in the list
 * of those that name no boundary.
 */
final class Sentence {
    private static final Path DOCUMENT = Path.of("../shared/DOC.md");

    /** They name what there is, or say again in other words what another sentence says. */
    private static final List<String> WITHOUT_BOUNDARY = List.of(
        "A microcoded processor, a store of micro-words that callers write and patch, and programs of two sets of"
            + " instructions on it.",
        "what later calls answer is free.",
        "A micro-word lets parts drive a bus and others listen, combines, reads or writes a cell, and tells what"
            + " comes next;",
        "an instruction that meets an absent page is taken back and begins again;",
        "interrupts come between instructions, or where a long one gives way;",
        "flags are found late;",
        "each instruction that ends is judged by its definition;",
        "a checker goes through all ways of a routine and finds hidden parts that are read ahead of being set.",
        "Numbers.", "Visible parts.", "Hidden parts.", "Micro-words.", "Forbidden words.", "A micro-step.", "Orders.",
        "Instructions.", "Absent pages.", "Lost ways.", "Interrupts.", "Definitions.", "Judging.", "Late flags.",
        "Exceptions.",
        "an order;", "First, the bus:", "Second, the combination makes the result:",
        "What an instruction must do is told here for the set 0:", "By its operation:",
        "Sixth, the order tells the next address.",
        "---- micro-words.", "---- programs and what comes from outside.", "---- parts.",
        "---- the checker and definitions.", "---- counts.",
        "Sets the constant of a micro-word.", "Returns why a word would be forbidden.", "the order",
        "Returns the first address.", "Returns the number of addresses.", "Sets an entry of the table.",
        "Sets a cell.", "Sets a register.", "Sets P, S and I.", "Sets the wait.", "Sets the vector.",
        "Returns a cell.", "Returns the byte.", "Returns a register.", "Returns another part.",
        "Returns what it holds.", "Returns the next address.", "Returns the number of returns.",
        "Returns what it would hold.", "Returns the number of instructions.", "Returns the place.",
        "Returns the number of times.", "Returns the number of interrupts.", "Returns the number of fights.",
        "Returns the number of cycles.",
        "Resets the processor:", "Checks the processor:");

    private static final Map<String, String> SECTIONS = read();
    private static final Map<String, boolean[]> QUOTED = new LinkedHashMap<>();
    private static String open = "";
    private static int madeWhenOpened = 0;
    private static int count = 0;

    /** What is checked from here on is for these words under 'What it is'. */
    static void introduction(String words) {
        begin("What it is", words);
    }

    /** What is checked from here on is for these words under 'Terms'. */
    static void terms(String words) {
        begin("Terms", words);
    }

    /** What is checked from here on is for these words of the promise. */
    static void promise(int number, String words) {
        begin("Promise " + number, words);
    }

    static void finish() {
        end();
        for (String section : SECTIONS.keySet()) {
            checkNoneIsLeftOver(section);
        }
        System.out.println(count + " sentences have tests of their own");
    }

    private static void begin(String section, String words) {
        end();
        open = section + ", \"" + words + "\"";
        Check.about(open + ": ");
        String text = SECTIONS.getOrDefault(section, "");
        int from = text.indexOf(words);
        Check.same("the document says it once", from >= 0 && text.indexOf(words, from + 1) < 0, true);
        boolean[] quoted = QUOTED.computeIfAbsent(section, name -> new boolean[text.length()]);
        for (int i = Math.max(from, 0); from >= 0 && i < from + words.length(); i++) {
            quoted[i] = true;
        }
        madeWhenOpened = Check.made();
        count++;
    }

    private static void end() {
        if (!open.isEmpty()) {
            Check.same("has checks", Check.made() > madeWhenOpened, true);
        }
        open = "";
        Check.about("");
    }

    private static void checkNoneIsLeftOver(String section) {
        String text = SECTIONS.get(section);
        boolean[] quoted = QUOTED.getOrDefault(section, new boolean[text.length()]);
        int from = 0;
        for (String clause : text.split("\n|(?<=[.;:]) ")) {
            boolean hasTest = false;
            for (int i = from; i < from + clause.length(); i++) {
                hasTest |= quoted[i];
            }
            from += clause.length() + 1;
            boolean needsNone = isName(clause) || WITHOUT_BOUNDARY.contains(clause);
            Check.same(section + " has a test for \"" + clause + "\"", hasTest || needsNone, true);
        }
    }

    /** What ends with a colon may be the name of what is told behind it: a method, a parameter, an order. */
    private static boolean isName(String clause) {
        boolean isCode = clause.startsWith("`") || clause.startsWith("- `") || clause.startsWith("'");
        return clause.endsWith(":") && (isCode || clause.startsWith("Ahead of the calls "));
    }

    /** The texts of the sections by their names, a paragraph or a point of a list in each line. */
    private static Map<String, String> read() {
        Map<String, String> sections = new LinkedHashMap<>();
        String document;
        try {
            document = Files.readString(DOCUMENT);
        } catch (IOException thrown) {
            throw new IllegalStateException("the document is not at " + DOCUMENT, thrown);
        }
        for (String part : document.split("(?m)^## ")) {
            String name = part.lines().findFirst().orElse("").split(":")[0].trim();
            if (name.equals("What it is") || name.equals("Terms") || name.startsWith("Promise ")) {
                StringBuilder text = new StringBuilder();
                String body = part.substring(part.indexOf('\n') + 1).trim();
                for (String paragraph : body.split("\\s*\n\\s*\n|\n(?=- )")) {
                    text.append(text.length() == 0 ? "" : "\n").append(paragraph.trim().replaceAll("\\s+", " "));
                }
                sections.put(name, text.toString());
            }
        }
        return sections;
    }
}
