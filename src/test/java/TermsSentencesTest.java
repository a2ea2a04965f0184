import java.util.ArrayList;
import java.util.List;
import java.util.Map;
import java.util.function.ToLongFunction;

/** The sentences of "What it is", of the row and its levels, and of changes and errors. */
public final class TermsSentencesTest extends Sentences {
    private static final String ROW = "5a3f0c71";
    private static final String ALL = "0123456789abcdef";
    private static final String FULL = "7".repeat(59) + "8";

    /** A new section of the document is to have tests too. */
    private static void headings(Map<String, String> document) {
        if (document.isEmpty()) {
            return;
        }
        List<String> known = new ArrayList<>(List.of("BitLevels", "What it is", "The public face", "Terms",
                "The row and its levels", "Texts", "Changes and errors", "Not promised"));
        int promises = 0;
        for (String heading : document.keySet()) {
            if (heading.matches("Promise \\d+: .*")) {
                promises++;
            } else if (!known.remove(heading)) {
                fault("no test knows of the section " + heading);
            }
        }
        due("sections that are gone", known.size(), 0);
        due("promises", promises, 26);
    }

    private static void whatItIs() {
        section("What it is");
        tells("A row of symbols that is sorted by its leading bits, level by level: bits of each level, where a place"
                + " goes from level to level, ranks by blocks, symbols from the levels alone, how often a symbol stands"
                + " ahead of a place, where it stands for the k-th time, the k-th smallest of a span, symbols below a"
                + " bound, the next one that is not less, the most frequent one, what two spans have in common, sums"
                + " and products told exactly, edits, and edits as texts with places and reasons of faults.");
        says("An object is used for at most 512 calls after it has been made");
        BitLevels x = new BitLevels();
        for (int call = 0; call < 60; call++) {
            due("put as call " + call, x.put(call, call % 16), call + 1);
        }
        for (int call = 60; call < 510; call += 5) {
            int symbol = call % 16;
            due("change as call " + call, x.change(59, symbol), call == 60 ? 11 : (call - 5) % 16);
            due("bits as call " + (call + 1), x.bits(0) >> 59, symbol / 8);
            due("rank as call " + (call + 2), x.rank(0, 60), symbol == 0 ? 5 : 4);
            due("common as call " + (call + 3), x.common(56, 59, 58, 60, 1), symbol == 8 || symbol == 9 ? 2 : 1);
            due("clearText as call " + (call + 4), x.clearText(), 0);
        }
        due("undo as call 510", x.undo(), 3);
        due("symbolAt as call 511", x.symbolAt(59), 500 % 16);
        tells("; what later calls answer is free.");
    }

    private static void row() {
        section("The row and its levels");
        says("The row has at most 60 symbols");
        due("put of the 60th", withRow(FULL.substring(1)).put(0, 7), 60);
        dueError("put of the 61st", LIMIT, () -> withRow(FULL), x -> x.put(0, 7));
        due("play of the 60th", withText(FULL.substring(1), "+0,7;").play(), 60);
        dueError("play of the 61st", IMPOSSIBLE, () -> withText(FULL, "+0,7;"), BitLevels::play);
        dueError("play of 58 and 3", IMPOSSIBLE, () -> withText("1".repeat(58), "+0,777;"), BitLevels::play);
        says(", each 0 to 15");
        dueRange("put(0, ?)", 0, 15, symbol -> withRow("1").put(0, symbol));
        dueRange("change(0, ?)", 0, 15, symbol -> withRow("1").change(0, symbol));
        dueRow("puts of all symbols", withRow(ALL), ALL);
        says(", at places from 0 on.");
        BitLevels x = withRow("5a");
        due("symbolAt(-1)", x.symbolAt(-1), INVALID);
        due("symbolAt(0)", x.symbolAt(0), 5);
        due("symbolAt(1)", x.symbolAt(1), 10);
        due("symbolAt(2)", x.symbolAt(2), MISSING);
        due("take(0)", x.take(0), 5);
        due("symbolAt(0) after take(0)", x.symbolAt(0), 10);
    }

    private static void spans() {
        says("A span is told by two places: the symbols from the first place on, up to the one ahead of the second"
                + " place");
        BitLevels x = withRow(ROW);
        due("spanOf(1, 3, 3)", x.spanOf(1, 3, 3), 13);
        due("spanOf(1, 3, 1)", x.spanOf(1, 3, 1), 3);
        due("product(1, 3)", x.product(1, 3), 44);
        due("smallest(1, 4, 2)", x.smallest(1, 4, 2), 15);
        due("smallest(0, 3, 2)", x.smallest(0, 3, 2), 10);
        due("below(3, 5, 16)", x.below(3, 5, 16), 2);
        due("notBelow(2, 4, 4)", x.notBelow(2, 4, 4), 15);
        due("common(0, 2, 1, 3, 2)", x.common(0, 2, 1, 3, 2), 10);
        x.turn(1, 3);
        dueRow("turn(1, 3)", x, "53af0c71");
        x.sort(3, 5);
        dueRow("sort(3, 5)", x, "53a0fc71");
        says("; it may be empty.");
        for (int place = 0; place <= 8; place++) {
            BitLevels at = withRow(ROW);
            due("turn of none at " + place, at.turn(place, place), 0);
            due("sort of none at " + place, at.sort(place, place), 0);
            dueRow("turn and sort of none at " + place, at, ROW);
            due("smallest of none at " + place, at.smallest(place, place, 0), MISSING);
            due("below of none at " + place, at.below(place, place, 16), 0);
            due("notBelow of none at " + place, at.notBelow(place, place, 0), MISSING);
            due("spanOf of none at " + place, at.spanOf(place, place, 4), 1);
            due("product of none at " + place, at.product(place, place), 1);
            due("common of none at " + place, at.common(place, place, 8, 8, 3), 1);
        }
    }

    private static void dueLevel(String row, int level, String want) {
        BitLevels x = withRow(row);
        for (int place = 0; place < row.length(); place++) {
            due("levelOf(" + level + ", " + place + ", 0) of " + row, x.levelOf(level, place, 0),
                    Character.digit(want.charAt(place), 16));
        }
    }

    private static void levels() {
        says("There are the levels 0 to 4.");
        dueRange("levelOf(?, 0, 0)", 0, 4, level -> withRow(ROW).levelOf(level, 0, 0));
        dueRange("levelOf(?, 0, 3)", 0, 4, level -> withRow(ROW).levelOf(level, 0, 3));
        says("Level 0 is the row as it is.");
        dueLevel(ROW, 0, ROW);
        dueLevel(FULL, 0, FULL);
        for (int place = 0; place < 8; place++) {
            due("levelOf(0, " + place + ", 3)", withRow(ROW).levelOf(0, place, 3), place);
        }
        says("Each next level is the one before it, sorted anew: from level k to level k + 1, the symbols whose bit"
                + " 3 - k is 0 come first, behind them those whose bit is 1, both in the order that they have in"
                + " level k.");
        dueLevel("fedcba9876543210", 1, "76543210fedcba98");
        dueLevel("fedcba9876543210", 2, "3210ba987654fedc");
        dueLevel("fedcba9876543210", 3, "109854dc32ba76fe");
        dueLevel("fedcba9876543210", 4, "084c2a6e195d3b7f");
        dueLevel("8080", 1, "0088");
        dueLevel("4040", 1, "4040");
        dueLevel("4040", 2, "0044");
        dueLevel("1010", 3, "1010");
        dueLevel("1010", 4, "0011");
        dueLevel("f".repeat(60), 4, "f".repeat(60));
        dueLevel("f".repeat(30) + "0".repeat(30), 1, "0".repeat(30) + "f".repeat(30));
        says("(So the level 4 is sorted by the bits told backwards.)");
        dueLevel(ALL, 4, "084c2a6e195d3b7f");
        dueLevel("f7b3d591e6a2c480", 4, "084c2a6e195d3b7f");
        says("The bits of level k, for k below 4, are the bits 3 - k of its symbols.");
        for (int level = 0; level < 4; level++) {
            BitLevels x = withRow(ROW);
            for (int place = 0; place < 8; place++) {
                int bit = x.levelOf(level, place, 0) >> (3 - level) & 1;
                due("levelOf(" + level + ", " + place + ", 1)", x.levelOf(level, place, 1), bit);
                due("bit " + place + " of bits(" + level + ")", x.bits(level) >> place & 1, bit);
            }
        }
        due("levelOf(4, 0, 1)", withRow(ROW).levelOf(4, 0, 1), MISSING);
        due("bits(4)", withRow(ROW).bits(4), INVALID);
    }

    private static void blocks() {
        says("The blocks of a level are rows of 8 of its bits, the first one from the place 0 on");
        String row = "80000000" + "08000000" + "00000008" + "8";
        int[] bits = {1, 2, 128, 1};
        for (int block = 0; block < 4; block++) {
            due("blockOf(0, " + block + ", 0)", withRow(row).blockOf(0, block, 0), bits[block]);
            due("blockOf(0, " + block + ", 2)", withRow(row).blockOf(0, block, 2), block);
        }
        says("; the last one may be shorter.");
        due("blockOf(0, 7, 0) of 60", withRow("8".repeat(60)).blockOf(0, 7, 0), 15);
        due("blockOf(0, 0, 0) of one", withRow("8").blockOf(0, 0, 0), 1);
        due("blockOf(0, 1, 0) of 15", withRow("8".repeat(15)).blockOf(0, 1, 0), 127);
        due("blockOf(0, 1, 0) of 16", withRow("8".repeat(16)).blockOf(0, 1, 0), 255);
        due("count(3) of 57", withRow("8".repeat(57)).count(3), 8);
        BitLevels x = withRow("8".repeat(60));
        x.take(0);
        due("blockOf(0, 7, 0) after take", x.blockOf(0, 7, 0), 7);
    }

    /** The call records one state, and undo brings the row back. */
    private static void dueChange(String call, String row, String text, ToLongFunction<BitLevels> it) {
        BitLevels x = withText(row, text);
        due(call + " before", x.count(4), row.length());
        it.applyAsLong(x);
        due("count(4) after " + call, x.count(4), row.length() + 1);
        due("undo after " + call, x.undo(), row.length());
        dueRow("undo after " + call, x, row);
    }

    private static void dueNoChange(String call, ToLongFunction<BitLevels> it) {
        BitLevels x = withText("12", "+0,34;");
        it.applyAsLong(x);
        due("count(4) after " + call, x.count(4), 2);
        dueRow(call, x, "12");
    }

    private static void whatIsAChange() {
        section("Changes and errors");
        says("The changes are the calls of put, take, change, swap, turn, sort and play that return no error.");
        dueChange("put", "312", "", x -> x.put(1, 4));
        dueChange("put of the first", "", "", x -> x.put(0, 4));
        dueChange("take", "312", "", x -> x.take(1));
        dueChange("take of the last", "3", "", x -> x.take(0));
        dueChange("change", "312", "", x -> x.change(1, 4));
        dueChange("change to the same", "312", "", x -> x.change(1, 1));
        dueChange("swap", "312", "", x -> x.swap(0, 2));
        dueChange("swap with itself", "312", "", x -> x.swap(1, 1));
        dueChange("swap of like ones", "311", "", x -> x.swap(1, 2));
        dueChange("turn", "312", "", x -> x.turn(0, 3));
        dueChange("turn that changes nothing", "313", "", x -> x.turn(0, 3));
        dueChange("turn of none", "312", "", x -> x.turn(3, 3));
        dueChange("turn of an empty row", "", "", x -> x.turn(0, 0));
        dueChange("sort", "312", "", x -> x.sort(0, 3));
        dueChange("sort of a sorted span", "123", "", x -> x.sort(0, 3));
        dueChange("sort of none", "312", "", x -> x.sort(0, 0));
        dueChange("sort of an empty row", "", "", x -> x.sort(0, 0));
        dueChange("play", "312", "+0,4;-1,2;", BitLevels::play);
        dueChange("play of no edits", "312", "", BitLevels::play);
        dueChange("play that changes nothing", "312", "r0,0;", BitLevels::play);
        whatIsNoChange();
    }

    private static void whatIsNoChange() {
        dueNoChange("put that is refused", x -> x.put(3, 4));
        dueNoChange("take that is refused", x -> x.take(2));
        dueNoChange("change that is refused", x -> x.change(0, 16));
        dueNoChange("swap that is refused", x -> x.swap(0, 2));
        dueNoChange("turn that is refused", x -> x.turn(0, 3));
        dueNoChange("sort that is refused", x -> x.sort(0, 3));
        dueNoChange("play that is refused", x -> x.type('+') + x.play());
        dueNoChange("levelOf", x -> x.levelOf(4, 0, 0));
        dueNoChange("blockOf", x -> x.blockOf(0, 0, 0));
        dueNoChange("bits", x -> x.bits(0));
        dueNoChange("symbolAt", x -> x.symbolAt(0));
        dueNoChange("rank", x -> x.rank(1, 2));
        dueNoChange("select", x -> x.select(1, 0));
        dueNoChange("smallest", x -> x.smallest(0, 2, 0));
        dueNoChange("below", x -> x.below(0, 2, 2));
        dueNoChange("notBelow", x -> x.notBelow(0, 2, 2));
        dueNoChange("spanOf", x -> x.spanOf(0, 2, 0));
        dueNoChange("product", x -> x.product(0, 2));
        dueNoChange("common", x -> x.common(0, 1, 1, 2, 0));
        dueNoChange("heaviest", x -> x.heaviest(1, 0));
        dueNoChange("count", x -> x.count(4));
        dueNoChange("type", x -> x.type('+'));
        dueNoChange("clearText", BitLevels::clearText);
        dueNoChange("fault", x -> x.fault(0));
    }

    private static void history() {
        says("A history of at most 4 states is kept");
        BitLevels x = new BitLevels();
        for (int many = 1; many <= 10; many++) {
            x.put(0, many);
            due("count(4) after " + many + " changes", x.count(4), Math.min(many, 4));
        }
        for (int left = 3; left >= 0; left--) {
            due("undo", x.undo(), left);
        }
        due("undo of a fifth state", x.undo(), IMPOSSIBLE);
        says("each change records everything before it but the text");
        BitLevels texts = withText("123", "ab");
        texts.take(0);
        texts.type('c');
        due("undo", texts.undo(), 3);
        dueRow("undo", texts, "123");
        due("count(5) after undo", texts.count(5), 3);
        due("clearText", texts.clearText(), 3);
        due("undo after clearText", texts.undo(), 2);
        due("count(5) after undo", texts.count(5), 0);
        BitLevels full = withRow(FULL);
        full.sort(0, 60);
        full.turn(0, 60);
        full.undo();
        full.undo();
        dueRow("both undone", full, FULL);
        BitLevels played = withText("12", "+0,34;");
        played.play();
        played.undo();
        due("count(5) after undo of play", played.count(5), 6);
        due("play after undo of play", played.play(), 4);
        says("and if there are 5 states then, the oldest one is dropped.");
        BitLevels five = withRow("12345");
        for (String row : new String[] {"1234", "123", "12", "1"}) {
            five.undo();
            dueRow("undo", five, row);
        }
        due("undo of the dropped state", five.undo(), IMPOSSIBLE);
        dueRow("undo of the dropped state", five, "1");
        BitLevels seven = withRow("1234567");
        seven.undo();
        seven.put(0, 9);
        seven.put(0, 8);
        for (String row : new String[] {"9123456", "123456", "12345", "1234"}) {
            seven.undo();
            dueRow("undo of seven", seven, row);
        }
        due("count(4) of seven", seven.count(4), 0);
    }

    private static void severalErrors() {
        says("If several errors apply to a call, INVALID_ARGUMENT is returned rather than NOT_POSSIBLE, NOT_POSSIBLE"
                + " rather than LIMIT_REACHED, and LIMIT_REACHED rather than NOT_FOUND.");
        due("put(61, 0) into 60", withRow(FULL).put(61, 0), INVALID);
        due("put(-1, 0) into 60", withRow(FULL).put(-1, 0), INVALID);
        due("put(0, 16) into 60", withRow(FULL).put(0, 16), INVALID);
        due("put(60, -1) into 60", withRow(FULL).put(60, -1), INVALID);
        due("type(127) to 60", withText("", "+".repeat(60)).type(127), INVALID);
        due("type(31) to 60", withText("", "+".repeat(60)).type(31), INVALID);
        due("levelOf(4, 8, 1)", withRow(ROW).levelOf(4, 8, 1), INVALID);
        due("levelOf(4, -1, 2)", withRow(ROW).levelOf(4, -1, 2), INVALID);
        due("levelOf(4, 0, 1) of none", withRow("").levelOf(4, 0, 1), INVALID);
        due("blockOf(4, 1, 0)", withRow(ROW).blockOf(4, 1, 0), INVALID);
        due("blockOf(-1, 1, 0)", withRow(ROW).blockOf(-1, 1, 0), INVALID);
        due("blockOf(0, 1, 3)", withRow(ROW).blockOf(0, 1, 3), INVALID);
        due("blockOf(0, 1, -1)", withRow(ROW).blockOf(0, 1, -1), INVALID);
        due("select(16, 9)", withRow(ROW).select(16, 9), INVALID);
        due("select(9, -1)", withRow(ROW).select(9, -1), INVALID);
        due("smallest(0, 9, 9)", withRow(ROW).smallest(0, 9, 9), INVALID);
        due("smallest(8, 8, -1)", withRow(ROW).smallest(8, 8, -1), INVALID);
        due("notBelow(0, 0, 16)", withRow(ROW).notBelow(0, 0, 16), INVALID);
        due("notBelow(9, 9, 0)", withRow(ROW).notBelow(9, 9, 0), INVALID);
        due("spanOf(9, 9, 1)", withRow(ROW).spanOf(9, 9, 1), INVALID);
        due("spanOf(-1, -1, 2)", withRow(ROW).spanOf(-1, -1, 2), INVALID);
        due("product(0, 61) of 60", withRow("f".repeat(60)).product(0, 61), INVALID);
        due("product(-1, 60) of 60", withRow("f".repeat(60)).product(-1, 60), INVALID);
        due("common(0, 0, 9, 9, 2)", withRow(ROW).common(0, 0, 9, 9, 2), INVALID);
        due("common(9, 9, 0, 0, 2)", withRow(ROW).common(9, 9, 0, 0, 2), INVALID);
        due("heaviest(9, 2)", withRow(ROW).heaviest(9, 2), INVALID);
        due("heaviest(9, -1)", withRow(ROW).heaviest(9, -1), INVALID);
        due("heaviest(61, 0)", withRow(ROW).heaviest(61, 0), INVALID);
        due("symbolAt(-1) of none", withRow("").symbolAt(-1), INVALID);
        due("fault(3) without a fault", withRow(ROW).fault(3), INVALID);
        due("fault(-1) without a fault", withRow(ROW).fault(-1), INVALID);
    }

    /** A row with a full history and a text; its last place is 3. */
    private static BitLevels used() {
        BitLevels x = withText("5a3f0", "+0,12;");
        x.take(4);
        return x;
    }

    private static BitLevels usedFull() {
        return withText(FULL, "-0,9;+51,fedcba;x0,9;r0,51;");
    }

    private static void dueNothing(String call, long want, ToLongFunction<BitLevels> it) {
        dueError(call, want, TermsSentencesTest::used, it);
    }

    private static void errors() {
        says("A call that returns an error changes nothing.");
        dueNothing("put(5, 0)", INVALID, x -> x.put(5, 0));
        dueNothing("put(0, 16)", INVALID, x -> x.put(0, 16));
        dueError("put into 60", LIMIT, TermsSentencesTest::usedFull, x -> x.put(0, 1));
        dueNothing("take(4)", INVALID, x -> x.take(4));
        dueNothing("change(4, 0)", INVALID, x -> x.change(4, 0));
        dueNothing("change(0, 16)", INVALID, x -> x.change(0, 16));
        dueNothing("swap(0, 4)", INVALID, x -> x.swap(0, 4));
        dueNothing("swap(4, 0)", INVALID, x -> x.swap(4, 0));
        dueNothing("turn(0, 5)", INVALID, x -> x.turn(0, 5));
        dueNothing("turn(2, 0)", INVALID, x -> x.turn(2, 0));
        dueNothing("sort(0, 5)", INVALID, x -> x.sort(0, 5));
        dueNothing("sort(4, 0)", INVALID, x -> x.sort(4, 0));
        dueNothing("levelOf(4, 0, 1)", MISSING, x -> x.levelOf(4, 0, 1));
        dueNothing("levelOf(0, 4, 0)", INVALID, x -> x.levelOf(0, 4, 0));
        dueNothing("blockOf(0, 1, 0)", MISSING, x -> x.blockOf(0, 1, 0));
        dueNothing("blockOf(4, 0, 0)", INVALID, x -> x.blockOf(4, 0, 0));
        dueNothing("bits(4)", INVALID, x -> x.bits(4));
        dueNothing("symbolAt(4)", MISSING, x -> x.symbolAt(4));
        dueNothing("symbolAt(-1)", INVALID, x -> x.symbolAt(-1));
        dueNothing("rank(0, 5)", INVALID, x -> x.rank(0, 5));
        dueNothing("select(0, 0)", MISSING, x -> x.select(0, 0));
        dueNothing("select(0, -1)", INVALID, x -> x.select(0, -1));
        dueNothing("smallest(0, 4, 4)", MISSING, x -> x.smallest(0, 4, 4));
        dueNothing("smallest(0, 5, 0)", INVALID, x -> x.smallest(0, 5, 0));
        dueNothing("below(0, 4, 17)", INVALID, x -> x.below(0, 4, 17));
        dueNothing("notBelow(0, 1, 6)", MISSING, x -> x.notBelow(0, 1, 6));
        dueNothing("notBelow(0, 1, 16)", INVALID, x -> x.notBelow(0, 1, 16));
        dueNothing("spanOf(1, 1, 1)", MISSING, x -> x.spanOf(1, 1, 1));
        dueNothing("spanOf(1, 0, 1)", INVALID, x -> x.spanOf(1, 0, 1));
        dueNothing("product(1, 0)", INVALID, x -> x.product(1, 0));
        dueError("product of 60", LIMIT, TermsSentencesTest::usedFull, x -> x.product(0, 60));
        dueNothing("common(0, 1, 1, 2, 2)", MISSING, x -> x.common(0, 1, 1, 2, 2));
        dueNothing("common(0, 1, 1, 5, 0)", INVALID, x -> x.common(0, 1, 1, 5, 0));
        dueNothing("heaviest(5, 0)", MISSING, x -> x.heaviest(5, 0));
        dueNothing("heaviest(0, 0)", INVALID, x -> x.heaviest(0, 0));
        dueNothing("count(6)", INVALID, x -> x.count(6));
        dueNothing("type(31)", INVALID, x -> x.type(31));
        dueNothing("fault(0)", MISSING, x -> x.fault(0));
        dueNothing("fault(3)", INVALID, x -> x.fault(3));
        errorsOfTexts();
    }

    private static void errorsOfTexts() {
        dueError("undo", IMPOSSIBLE, () -> write(new BitLevels(), "+0,12;"), BitLevels::undo);
        dueError("type to 60", LIMIT, () -> withText("5a", "+0,1;".repeat(12)), x -> x.type('+'));
        // All edits ahead of the one with the fault are taken back with it.
        dueError("play", IMPOSSIBLE, () -> withText("5a3f0", "+0,12;x0,6;r0,7;-0,3;x0,4;"), BitLevels::play);
        dueError("play", IMPOSSIBLE, () -> withText("5a3f0", "-0,5;+0,12;q"), BitLevels::play);
        dueError("play into 60", IMPOSSIBLE, () -> withText(FULL, "-0,9;r0,51;+0,1234567890;"), BitLevels::play);
        dueError("fault(2)", MISSING, () -> withText("5a3f0", "-0,1;x0,4;"), x -> x.fault(2));
    }

    private static void noSuchPlace() {
        says("If there is no such place or span in the row, this is INVALID_ARGUMENT");
        dueRefused("put(?, 0)", place -> withRow("123").put(place, 0), -1, 4);
        dueRefused("take", place -> withRow("123").take(place), -1, 3);
        dueRefused("change(?, 0)", place -> withRow("123").change(place, 0), -1, 3);
        dueRefused("swap(?, 0)", place -> withRow("123").swap(place, 0), -1, 3);
        dueRefused("swap(0, ?)", place -> withRow("123").swap(0, place), -1, 3);
        dueRefused("levelOf(0, ?, 0)", place -> withRow("123").levelOf(0, place, 0), -1, 3);
        dueRefused("rank(1, ?)", place -> withRow("123").rank(1, place), -1, 4);
        dueRefused("turn(?, 3)", from -> withRow("123").turn(from, 3), -1, 4);
        dueRefused("sort(?, 3)", from -> withRow("123").sort(from, 3), -1, 4);
        says("(the second place of a span is at least the first one");
        SpanCall[] calls = {
            BitLevels::turn, BitLevels::sort, (x, from, to) -> x.smallest(from, to, 0),
            (x, from, to) -> x.below(from, to, 1), (x, from, to) -> x.notBelow(from, to, 1),
            (x, from, to) -> x.spanOf(from, to, 3), BitLevels::product,
            (x, from, to) -> x.common(from, to, 0, 1, 0), (x, from, to) -> x.common(0, 1, from, to, 0),
        };
        for (SpanCall call : calls) {
            dueTaken("from 1, to", to -> call.of(withRow("123"), 1, to), 1, 2, 3);
            dueRefused("from 1, to", to -> call.of(withRow("123"), 1, to), 0, -1);
            dueTaken("from 3, to", to -> call.of(withRow("123"), 3, to), 3);
            dueRefused("from 3, to", to -> call.of(withRow("123"), 3, to), 2, 0);
        }
        says(", and at most the number of symbols).");
        for (SpanCall call : calls) {
            dueTaken("from 0, to", to -> call.of(withRow("123"), 0, to), 3);
            dueRefused("from 0, to", to -> call.of(withRow("123"), 0, to), 4, 60, MOST);
            dueRefused("from and to", place -> call.of(withRow("123"), place, place), 4, 60, MOST);
            dueTaken("of 60, from 0, to", to -> call.of(withRow(FULL), 0, to), 60);
            dueRefused("of 60, from 0, to", to -> call.of(withRow(FULL), 0, to), 61);
        }
    }

    private static void constants() {
        tells("The constants:");
        says("`INVALID_ARGUMENT = -1000001`: An argument is out of its range, or there is no such place or span.");
        due("INVALID_ARGUMENT", INVALID, -1000001);
        due("put(0, 16)", withRow("12").put(0, 16), -1000001);
        due("take(2)", withRow("12").take(2), -1000001);
        due("product(0, 3)", withRow("12").product(0, 3), -1000001L);
        says("`NOT_POSSIBLE = -1000002`: The call is not possible in the present state.");
        due("NOT_POSSIBLE", IMPOSSIBLE, -1000002);
        due("undo()", new BitLevels().undo(), -1000002);
        due("play()", withText("", "+").play(), -1000002);
        says("`LIMIT_REACHED = -1000003`: A fixed limit has been reached.");
        due("LIMIT_REACHED", LIMIT, -1000003);
        due("put(0, 0) into 60", withRow(FULL).put(0, 0), -1000003);
        due("product(0, 60)", withRow(FULL).product(0, 60), -1000003L);
        says("`NOT_FOUND = -1000004`: There is no such value.");
        due("NOT_FOUND", MISSING, -1000004);
        due("symbolAt(2)", withRow("12").symbolAt(2), -1000004);
        due("fault(0)", withRow("12").fault(0), -1000004);
        tells("Ahead of the calls `put`, `take`, `change`, `swap`, `turn`, `sort` the interface says: ---- edits.");
        tells("Ahead of the calls `levelOf`, `blockOf`, `bits` the interface says: ---- levels.");
        tells("Ahead of the calls `symbolAt`, `rank`, `select` the interface says: ---- ranks.");
        tells("Ahead of the calls `smallest`, `below`, `notBelow`, `spanOf`, `product`, `common`, `heaviest`, `count`,"
                + " `undo` the interface says: ---- spans.");
        tells("Ahead of the calls `type`, `clearText`, `fault`, `play` the interface says: ---- texts.");
    }

    public static void main(String[] args) throws Exception {
        headings(readDocument());
        whatItIs();
        row();
        spans();
        levels();
        blocks();
        whatIsAChange();
        history();
        severalErrors();
        errors();
        noSuchPlace();
        constants();
        end();
    }
}
