import java.io.IOException;
import java.nio.file.Files;
import java.nio.file.Path;
import java.util.ArrayList;
import java.util.LinkedHashMap;
import java.util.List;
import java.util.Map;
import java.util.function.IntToLongFunction;
import java.util.function.Supplier;
import java.util.function.ToLongFunction;

/**
 * What the tests of the document's sentences share. Each sentence is told in the document's own words; at the end,
 * words of a section that no test has told are a fault, as is a sentence without a check.
 */
abstract class Sentences {
    static final int INVALID = BitLevels.INVALID_ARGUMENT;
    static final int IMPOSSIBLE = BitLevels.NOT_POSSIBLE;
    static final int LIMIT = BitLevels.LIMIT_REACHED;
    static final int MISSING = BitLevels.NOT_FOUND;
    static final int LEAST = Integer.MIN_VALUE;
    static final int MOST = Integer.MAX_VALUE;

    private static final Path DOCUMENT = Path.of("../shared/DOC.md");
    /** Stands where words were that a test has told. */
    private static final String TOLD = "|";

    private static final Map<String, String> untold = new LinkedHashMap<>();
    private static Map<String, String> document = new LinkedHashMap<>();
    private static String section = "";
    private static String sentence = "";
    private static int checks = 1;
    private static int sentences = 0;
    private static int wrong = 0;

    /** A call with a span of a row. */
    interface SpanCall {
        long of(BitLevels x, int from, int to);
    }

    // ---- the document

    /** The words of each section; none where the document is not at hand: the checks stand without it too. */
    static Map<String, String> readDocument() throws IOException {
        document = new LinkedHashMap<>();
        if (!Files.isReadable(DOCUMENT)) {
            System.out.println("no document at hand: its words are not compared");
            return document;
        }
        Map<String, StringBuilder> sections = new LinkedHashMap<>();
        StringBuilder words = new StringBuilder();
        for (String line : Files.readAllLines(DOCUMENT)) {
            if (line.startsWith("#")) {
                words = new StringBuilder();
                sections.put(line.replaceFirst("^#+ ", ""), words);
            } else if (!line.isEmpty()) {
                words.append(words.isEmpty() ? "" : " ").append(line);
            }
        }
        sections.forEach((heading, text) -> document.put(heading, text.toString()));
        return document;
    }

    static void section(String heading) {
        section = heading;
        if (!document.isEmpty() && !document.containsKey(heading)) {
            fault("the document has no section " + heading);
        }
        untold.put(heading, document.getOrDefault(heading, ""));
    }

    /** Begins the test of one sentence, or of a part of one. */
    static void says(String words) {
        endSentence();
        tells(words);
        checks = 0;
        sentences++;
    }

    /** For words that promise nothing of themselves. */
    static void tells(String words) {
        sentence = words;
        if (document.isEmpty()) {
            return;
        }
        String left = untold.get(section);
        int at = left.indexOf(words);
        if (at < 0) {
            fault("the section does not say so");
        } else {
            untold.put(section, left.substring(0, at) + TOLD + left.substring(at + words.length()));
        }
    }

    private static void endSentence() {
        if (checks == 0) {
            fault("nothing was checked");
        }
        checks = 1;
    }

    static void end() {
        endSentence();
        untold.forEach((heading, left) -> {
            if (left.matches(".*\\w.*")) {
                wrong++;
                System.out.println(heading + ": no test tells of: " + left);
            }
        });
        System.out.println(sentences + " sentences, " + wrong + " faults");
        if (wrong != 0) {
            System.exit(1);
        }
    }

    // ---- checks

    static void fault(String what) {
        wrong++;
        System.out.println(section + ": \"" + sentence + "\": " + what);
    }

    static void due(String call, long got, long want) {
        checks++;
        if (got != want) {
            fault(call + " answered " + got + ", due is " + want);
        }
    }

    static void dueRow(String call, BitLevels x, String want) {
        checks++;
        if (!rowOf(x).equals(want)) {
            fault("after " + call + " the row is " + rowOf(x) + ", due is " + want);
        }
    }

    /** The call takes the least and the most argument of a range, and none beyond. */
    static void dueRange(String call, int least, int most, IntToLongFunction it) {
        dueTaken(call, it, least, most);
        dueRefused(call, it, least - 1, most + 1, LEAST, MOST);
    }

    static void dueTaken(String call, IntToLongFunction it, int... arguments) {
        for (int argument : arguments) {
            checks++;
            if (it.applyAsLong(argument) == INVALID) {
                fault(call + " refuses " + argument);
            }
        }
    }

    static void dueRefused(String call, IntToLongFunction it, int... arguments) {
        for (int argument : arguments) {
            due(call + " of " + argument, it.applyAsLong(argument), INVALID);
        }
    }

    /** The call answers an error, and leaves the object as one that was not asked. */
    static void dueError(String call, long want, Supplier<BitLevels> maker, ToLongFunction<BitLevels> it) {
        BitLevels asked = maker.get();
        due(call, it.applyAsLong(asked), want);
        BitLevels untouched = maker.get();
        List<String> states = statesOf(asked);
        List<String> dueStates = statesOf(untouched);
        checks++;
        if (!states.equals(dueStates)) {
            fault("after " + call + " the states are " + states + ", due is " + dueStates);
        }
    }

    /** All that can be seen of an object; it is another one then. */
    private static List<String> statesOf(BitLevels x) {
        List<String> states = new ArrayList<>();
        states.add(rowOf(x) + " text " + x.count(5) + " fault " + x.fault(0) + " " + x.fault(1) + " " + x.fault(2));
        states.add(seenOf(x));
        for (int undone = 0; undone < 5; undone++) {
            states.add(x.undo() + ": " + seenOf(x));
        }
        // What the text does to the oldest row tells its characters from others.
        states.add(x.fault(0) + " " + x.play() + ": " + seenOf(x));
        return states;
    }

    /** The row by its levels: that takes few of the calls that an object has. */
    private static String seenOf(BitLevels x) {
        return x.count(0) + " " + x.bits(0) + " " + x.bits(1) + " " + x.bits(2) + " " + x.bits(3)
                + " history " + x.count(4);
    }

    // ---- rows and texts

    static String rowOf(BitLevels x) {
        StringBuilder symbols = new StringBuilder();
        int size = x.count(0);
        for (int place = 0; place < size; place++) {
            int symbol = x.symbolAt(place);
            symbols.append(symbol >= 0 && symbol <= 15 ? String.valueOf(Character.forDigit(symbol, 16)) : "?");
        }
        return symbols.toString();
    }

    static BitLevels withRow(String symbols) {
        BitLevels x = new BitLevels();
        for (int place = 0; place < symbols.length(); place++) {
            x.put(place, Character.digit(symbols.charAt(place), 16));
        }
        return x;
    }

    static BitLevels write(BitLevels x, String text) {
        x.clearText();
        for (int at = 0; at < text.length(); at++) {
            x.type(text.charAt(at));
        }
        return x;
    }

    static BitLevels withText(String symbols, String text) {
        return write(withRow(symbols), text);
    }

    /** Of the row 5a3f with a span of a call: what there is, and what there is not. */
    static void dueFrom(String call, SpanCall it) {
        dueTaken(call + " from, to 4", from -> it.of(withRow("5a3f"), from, 4), 0, 1, 3, 4);
        dueRefused(call + " from, to 4", from -> it.of(withRow("5a3f"), from, 4), -1, 5, LEAST, MOST);
        dueTaken(call + " from, to 2", from -> it.of(withRow("5a3f"), from, 2), 0, 2);
        dueRefused(call + " from, to 2", from -> it.of(withRow("5a3f"), from, 2), -1, 3, 4, 5, LEAST, MOST);
        dueRefused(call + " from and to", place -> it.of(withRow("5a3f"), place, place), -1, 5, LEAST, MOST);
    }

    static void dueTo(String call, SpanCall it) {
        dueTaken(call + " from 0, to", to -> it.of(withRow("5a3f"), 0, to), 0, 1, 4);
        dueRefused(call + " from 0, to", to -> it.of(withRow("5a3f"), 0, to), -1, 5, 60, 61, LEAST, MOST);
        dueTaken(call + " from 3, to", to -> it.of(withRow("5a3f"), 3, to), 3, 4);
        dueRefused(call + " from 3, to", to -> it.of(withRow("5a3f"), 3, to), -1, 0, 2, 5, LEAST, MOST);
        dueTaken(call + " of an empty row", to -> it.of(withRow(""), 0, to), 0);
        dueRefused(call + " of an empty row", to -> it.of(withRow(""), 0, to), -1, 1);
        String full = "f".repeat(60);
        dueTaken(call + " of a full row", to -> it.of(withRow(full), 0, to), 60);
        dueRefused(call + " of a full row", to -> it.of(withRow(full), 0, to), 61);
    }
}
