// For each promise: ordinary inputs, the edges that the document names, and wrong inputs.
public final class PromisesTest {
    private static final int INVALID = BitLevels.INVALID_ARGUMENT;
    private static final int IMPOSSIBLE = BitLevels.NOT_POSSIBLE;
    private static final int LIMIT = BitLevels.LIMIT_REACHED;
    private static final int MISSING = BitLevels.NOT_FOUND;
    private static final int LEAST = Integer.MIN_VALUE;
    private static final int MOST = Integer.MAX_VALUE;

    private static int wrong = 0;

    private static void due(String call, long got, long want) {
        if (got != want) {
            wrong++;
            System.out.println(call + " answered " + got + ", due is " + want);
        }
    }

    private static void dueRow(String call, BitLevels x, String want) {
        StringBuilder got = new StringBuilder();
        for (int place = 0; place < x.count(0); place++) {
            got.append(Character.forDigit(x.symbolAt(place), 16));
        }
        if (!got.toString().equals(want)) {
            wrong++;
            System.out.println("after " + call + " the row is " + got + ", due is " + want);
        }
    }

    private static BitLevels rowOf(String symbols) {
        BitLevels x = new BitLevels();
        for (int place = 0; place < symbols.length(); place++) {
            x.put(place, Character.digit(symbols.charAt(place), 16));
        }
        return x;
    }

    private static void write(BitLevels x, String text) {
        x.clearText();
        for (int at = 0; at < text.length(); at++) {
            due("type of " + text, x.type(text.charAt(at)), at + 1);
        }
    }

    private static String many(String text, int times) {
        return text.repeat(times);
    }

    private static void constants() {
        due("INVALID_ARGUMENT", INVALID, -1000001);
        due("NOT_POSSIBLE", IMPOSSIBLE, -1000002);
        due("LIMIT_REACHED", LIMIT, -1000003);
        due("NOT_FOUND", MISSING, -1000004);
    }

    private static void promise1NewObject() {
        BitLevels x = new BitLevels();
        for (int what = 0; what <= 5; what++) {
            due("new: count(" + what + ")", x.count(what), 0);
        }
        due("new: undo()", x.undo(), IMPOSSIBLE);
        due("new: symbolAt(0)", x.symbolAt(0), MISSING);
        BitLevels other = rowOf("123");
        due("new beside another one", x.count(0), 0);
        dueRow("new", other, "123");
    }

    private static void promise2Put() {
        BitLevels x = rowOf("13");
        due("put between", x.put(1, 2), 3);
        due("put ahead", x.put(0, 0), 4);
        due("put behind", x.put(4, 15), 5);
        dueRow("put", x, "0123f");
        due("put(6, 0)", x.put(6, 0), INVALID);
        due("put(-1, 0)", x.put(-1, 0), INVALID);
        due("put(0, 16)", x.put(0, 16), INVALID);
        due("put(0, -1)", x.put(0, -1), INVALID);
        due("put(least, most)", x.put(LEAST, MOST), INVALID);
        due("put(most, 0)", x.put(MOST, 0), INVALID);
        dueRow("refused put", x, "0123f");
        due("refused put: count(4)", x.count(4), 4);
        BitLevels full = rowOf(many("7", 59));
        due("the 60th put", full.put(59, 8), 60);
        due("the 61st put", full.put(60, 8), LIMIT);
        due("the 61st put ahead", full.put(0, 0), LIMIT);
        due("the 61st put, no such place", full.put(61, 8), INVALID);
        due("the 61st put, no such symbol", full.put(0, 16), INVALID);
        dueRow("refused 61st put", full, many("7", 59) + "8");
        due("undo the 60th put", full.undo(), 3);
        due("undone 60th put", full.count(0), 59);
    }

    private static void promise3Take() {
        BitLevels x = rowOf("0123f");
        due("take(5)", x.take(5), INVALID);
        due("take(-1)", x.take(-1), INVALID);
        due("take(most)", x.take(MOST), INVALID);
        due("take(least)", x.take(LEAST), INVALID);
        due("take(4)", x.take(4), 15);
        due("take(1)", x.take(1), 1);
        dueRow("take", x, "023");
        due("take(0)", x.take(0), 0);
        due("undo take", x.undo(), 3);
        dueRow("undo take", x, "023");
        due("take of an empty row", new BitLevels().take(0), INVALID);
    }

    private static void promise4Change() {
        BitLevels x = rowOf("0123f");
        due("change(4, 7)", x.change(4, 7), 15);
        due("change(0, 15)", x.change(0, 15), 0);
        due("change(1, 1)", x.change(1, 1), 1);
        dueRow("change", x, "f1237");
        due("change(5, 0)", x.change(5, 0), INVALID);
        due("change(-1, 0)", x.change(-1, 0), INVALID);
        due("change(0, 16)", x.change(0, 16), INVALID);
        due("change(0, -1)", x.change(0, -1), INVALID);
        dueRow("refused change", x, "f1237");
        due("undo a change to the same", x.undo(), 3);
        dueRow("undo a change to the same", x, "f1237");
        x.undo();
        dueRow("undo change", x, "01237");
    }

    private static void promise5Swap() {
        BitLevels x = rowOf("01231");
        due("swap(0, 4)", x.swap(0, 4), 1);
        dueRow("swap", x, "11230");
        due("swap(3, 2)", x.swap(3, 2), 1);
        dueRow("swap", x, "11320");
        due("swap of like ones", x.swap(0, 1), 0);
        due("swap with itself", x.swap(2, 2), 0);
        dueRow("swap that changes nothing", x, "11320");
        due("swap(5, 0)", x.swap(5, 0), INVALID);
        due("swap(0, 5)", x.swap(0, 5), INVALID);
        due("swap(-1, 0)", x.swap(-1, 0), INVALID);
        due("swap(0, -1)", x.swap(0, -1), INVALID);
        due("swap(7, 7)", x.swap(7, 7), INVALID);
        due("swap: states", x.count(4), 4);
        x.undo();
        x.undo();
        dueRow("undo both swaps that change nothing", x, "11320");
        x.undo();
        dueRow("undo swap", x, "11230");
    }

    private static void promise6Turn() {
        BitLevels x = rowOf("0123f");
        due("turn(0, 5)", x.turn(0, 5), 4);
        dueRow("turn", x, "f3210");
        due("turn(1, 3)", x.turn(1, 3), 2);
        dueRow("turn", x, "f2310");
        due("turn(2, 3)", x.turn(2, 3), 0);
        due("turn(5, 5)", x.turn(5, 5), 0);
        due("turn(0, 6)", x.turn(0, 6), INVALID);
        due("turn(3, 2)", x.turn(3, 2), INVALID);
        due("turn(-1, 2)", x.turn(-1, 2), INVALID);
        due("turn(6, 6)", x.turn(6, 6), INVALID);
        due("turn(least, most)", x.turn(LEAST, MOST), INVALID);
        dueRow("refused turn", x, "f2310");
        due("undo turn", x.undo(), 3);
        due("undo turn", x.undo(), 2);
        dueRow("undo turns that change nothing", x, "f2310");
        BitLevels partly = rowOf("1221a");
        due("turn of like ends", partly.turn(0, 4), 0);
        due("turn with like inner ones", rowOf("12213").turn(0, 5), 4);
        due("turn with like ends", rowOf("1231").turn(0, 4), 2);
    }

    private static void promise7Sort() {
        BitLevels x = rowOf("f3210");
        due("sort(1, 4)", x.sort(1, 4), 2);
        dueRow("sort", x, "f1230");
        due("sort(0, 5)", x.sort(0, 5), 2);
        dueRow("sort", x, "0123f");
        due("sort of a sorted span", x.sort(0, 5), 0);
        due("sort(5, 5)", x.sort(5, 5), 0);
        due("sort: states", x.count(4), 4);
        due("sort(0, 6)", x.sort(0, 6), INVALID);
        due("sort(3, 2)", x.sort(3, 2), INVALID);
        due("sort(-1, 2)", x.sort(-1, 2), INVALID);
        due("sort(6, 6)", x.sort(6, 6), INVALID);
        x.undo();
        x.undo();
        x.undo();
        dueRow("undo sort", x, "f1230");
        BitLevels likes = rowOf("33021130");
        due("sort with like ones", likes.sort(1, 7), 5);
        dueRow("sort with like ones", likes, "30112330");
    }

    private static void promise8LevelOf() {
        // 5 a 3 f 0 c 7 1 as bits: 0101 1010 0011 1111 0000 1100 0111 0001
        BitLevels x = rowOf("5a3f0c71");
        dueLevel(x, 0, "5a3f0c71", "01010100", "05162734", "01234567");
        dueLevel(x, 1, "53071afc", "10010011", "40152367", "02467135");
        dueLevel(x, 2, "301a57fc", "10010110", "40152673", "24710635");
        dueLevel(x, 3, "015c3a7f", "01101011", "03415267", "47052163");
        dueLevel(x, 4, "0ca1537f", "", "", "45170263");
        for (int what = 0; what <= 3; what++) {
            due("levelOf(-1, 0, " + what + ")", x.levelOf(-1, 0, what), INVALID);
            due("levelOf(5, 0, " + what + ")", x.levelOf(5, 0, what), INVALID);
            due("levelOf(4, -1, " + what + ")", x.levelOf(4, -1, what), INVALID);
            due("levelOf(4, 8, " + what + ")", x.levelOf(4, 8, what), INVALID);
            due("levelOf(0, most, " + what + ")", x.levelOf(0, MOST, what), INVALID);
        }
        due("levelOf(0, 0, 4)", x.levelOf(0, 0, 4), INVALID);
        due("levelOf(0, 0, -1)", x.levelOf(0, 0, -1), INVALID);
        due("levelOf(4, 0, 1)", x.levelOf(4, 0, 1), MISSING);
        due("levelOf(4, 7, 2)", x.levelOf(4, 7, 2), MISSING);
        due("levelOf(4, 0, 4)", x.levelOf(4, 0, 4), INVALID);
        due("levelOf of an empty row", new BitLevels().levelOf(0, 0, 0), INVALID);
    }

    private static void dueLevel(BitLevels x, int level, String symbols, String bits, String goals, String origins) {
        String[] wants = {symbols, bits, goals, origins};
        for (int what = 0; what < wants.length; what++) {
            for (int place = 0; place < wants[what].length(); place++) {
                due("levelOf(" + level + ", " + place + ", " + what + ")", x.levelOf(level, place, what),
                        Character.digit(wants[what].charAt(place), 16));
            }
        }
    }

    private static void promise9BlockOf() {
        // The bits of level 0 are those of 8 to f, the bits of level 3 those of odd symbols.
        BitLevels x = rowOf("8080808f" + "00000000" + "f");
        due("blockOf(0, 0, 0)", x.blockOf(0, 0, 0), 0b11010101);
        due("blockOf(0, 0, 1)", x.blockOf(0, 0, 1), 5);
        due("blockOf(0, 0, 2)", x.blockOf(0, 0, 2), 0);
        due("blockOf(0, 1, 0)", x.blockOf(0, 1, 0), 0);
        due("blockOf(0, 1, 1)", x.blockOf(0, 1, 1), 0);
        due("blockOf(0, 1, 2)", x.blockOf(0, 1, 2), 5);
        due("blockOf(0, 2, 0)", x.blockOf(0, 2, 0), 1);
        due("blockOf(0, 2, 1)", x.blockOf(0, 2, 1), 1);
        due("blockOf(0, 2, 2)", x.blockOf(0, 2, 2), 5);
        due("blockOf(1, 1, 0)", x.blockOf(1, 1, 0), 0b10000000);
        due("blockOf(1, 2, 0)", x.blockOf(1, 2, 0), 1);
        due("blockOf(3, 1, 1)", x.blockOf(3, 1, 1), 1);
        due("blockOf(3, 2, 2)", x.blockOf(3, 2, 2), 1);
        due("blockOf(0, 3, 0)", x.blockOf(0, 3, 0), MISSING);
        due("blockOf(3, most, 2)", x.blockOf(3, MOST, 2), MISSING);
        due("blockOf(4, 0, 0)", x.blockOf(4, 0, 0), INVALID);
        due("blockOf(-1, 0, 0)", x.blockOf(-1, 0, 0), INVALID);
        due("blockOf(0, -1, 0)", x.blockOf(0, -1, 0), INVALID);
        due("blockOf(0, least, 0)", x.blockOf(0, LEAST, 0), INVALID);
        due("blockOf(0, 0, 3)", x.blockOf(0, 0, 3), INVALID);
        due("blockOf(0, 3, -1)", x.blockOf(0, 3, -1), INVALID);
        due("blockOf(4, 9, 0)", x.blockOf(4, 9, 0), INVALID);
        due("blockOf of an empty row", new BitLevels().blockOf(0, 0, 0), MISSING);
        BitLevels whole = rowOf("ffffffff");
        due("blockOf of a whole block", whole.blockOf(2, 0, 0), 255);
        due("blockOf behind a whole block", whole.blockOf(2, 1, 0), MISSING);
        BitLevels full = rowOf(many("f", 60));
        due("blockOf of a full row", full.blockOf(3, 7, 0), 15);
        due("blockOf of a full row", full.blockOf(3, 7, 2), 56);
        due("blockOf of a full row", full.blockOf(3, 8, 2), MISSING);
    }

    private static void promise10Bits() {
        BitLevels x = rowOf("5a3f0c71");
        due("bits(0)", x.bits(0), 0b00101010);
        due("bits(1)", x.bits(1), 0b11001001);
        due("bits(2)", x.bits(2), 0b01101001);
        due("bits(3)", x.bits(3), 0b11010110);
        due("bits(4)", x.bits(4), INVALID);
        due("bits(-1)", x.bits(-1), INVALID);
        due("bits(least)", x.bits(LEAST), INVALID);
        due("bits of an empty row", new BitLevels().bits(3), 0);
        BitLevels full = rowOf(many("f", 60));
        due("bits of a full row", full.bits(0), (1L << 60) - 1);
        due("bits of a full row", rowOf(many("0", 59) + "8").bits(0), 1L << 59);
        due("bits beyond an int", rowOf(many("0", 31) + "88").bits(0), 3L << 31);
    }

    private static void promise11SymbolAt() {
        BitLevels x = rowOf("5af");
        due("symbolAt(0)", x.symbolAt(0), 5);
        due("symbolAt(2)", x.symbolAt(2), 15);
        due("symbolAt(3)", x.symbolAt(3), MISSING);
        due("symbolAt(most)", x.symbolAt(MOST), MISSING);
        due("symbolAt(-1)", x.symbolAt(-1), INVALID);
        due("symbolAt(least)", x.symbolAt(LEAST), INVALID);
        due("symbolAt of a full row", rowOf(many("1", 59) + "2").symbolAt(59), 2);
        due("symbolAt behind a full row", rowOf(many("1", 60)).symbolAt(60), MISSING);
    }

    private static void promise12Rank() {
        BitLevels x = rowOf("3132f3");
        due("rank(3, 0)", x.rank(3, 0), 0);
        due("rank(3, 1)", x.rank(3, 1), 1);
        due("rank(3, 2)", x.rank(3, 2), 1);
        due("rank(3, 6)", x.rank(3, 6), 3);
        due("rank(15, 4)", x.rank(15, 4), 0);
        due("rank(15, 5)", x.rank(15, 5), 1);
        due("rank(0, 6)", x.rank(0, 6), 0);
        due("rank(3, 7)", x.rank(3, 7), INVALID);
        due("rank(3, -1)", x.rank(3, -1), INVALID);
        due("rank(16, 0)", x.rank(16, 0), INVALID);
        due("rank(-1, 0)", x.rank(-1, 0), INVALID);
    }

    private static void promise13Select() {
        BitLevels x = rowOf("3132f3");
        due("select(3, 0)", x.select(3, 0), 0);
        due("select(3, 1)", x.select(3, 1), 2);
        due("select(3, 2)", x.select(3, 2), 5);
        due("select(3, 3)", x.select(3, 3), MISSING);
        due("select(15, 0)", x.select(15, 0), 4);
        due("select(0, 0)", x.select(0, 0), MISSING);
        due("select(3, most)", x.select(3, MOST), MISSING);
        due("select(3, -1)", x.select(3, -1), INVALID);
        due("select(16, 0)", x.select(16, 0), INVALID);
        due("select(-1, 0)", x.select(-1, 0), INVALID);
    }

    private static void promise14Smallest() {
        BitLevels x = rowOf("f3132f0");
        due("smallest(0, 6, 0)", x.smallest(0, 6, 0), 1);
        due("smallest(0, 6, 2)", x.smallest(0, 6, 2), 3);
        due("smallest(0, 6, 3)", x.smallest(0, 6, 3), 3);
        due("smallest(0, 6, 5)", x.smallest(0, 6, 5), 15);
        due("smallest(0, 6, 6)", x.smallest(0, 6, 6), MISSING);
        due("smallest(6, 7, 0)", x.smallest(6, 7, 0), 0);
        due("smallest(0, 7, most)", x.smallest(0, 7, MOST), MISSING);
        due("smallest(7, 7, 0)", x.smallest(7, 7, 0), MISSING);
        due("smallest(7, 7, -1)", x.smallest(7, 7, -1), INVALID);
        due("smallest(0, 7, least)", x.smallest(0, 7, LEAST), INVALID);
        due("smallest(0, 8, 0)", x.smallest(0, 8, 0), INVALID);
        due("smallest(2, 1, 0)", x.smallest(2, 1, 0), INVALID);
        due("smallest(-1, 1, 0)", x.smallest(-1, 1, 0), INVALID);
        due("smallest(8, 8, 0)", x.smallest(8, 8, 0), INVALID);
    }

    private static void promise15Below() {
        BitLevels x = rowOf("f3132f0");
        due("below(0, 7, 0)", x.below(0, 7, 0), 0);
        due("below(0, 7, 1)", x.below(0, 7, 1), 1);
        due("below(0, 7, 3)", x.below(0, 7, 3), 3);
        due("below(1, 6, 3)", x.below(1, 6, 3), 2);
        due("below(0, 7, 15)", x.below(0, 7, 15), 5);
        due("below(0, 7, 16)", x.below(0, 7, 16), 7);
        due("below(3, 3, 16)", x.below(3, 3, 16), 0);
        due("below(0, 7, 17)", x.below(0, 7, 17), INVALID);
        due("below(0, 7, -1)", x.below(0, 7, -1), INVALID);
        due("below(0, 8, 1)", x.below(0, 8, 1), INVALID);
        due("below(2, 1, 1)", x.below(2, 1, 1), INVALID);
        due("below(-1, 1, 1)", x.below(-1, 1, 1), INVALID);
    }

    private static void promise16NotBelow() {
        BitLevels x = rowOf("e3132e0");
        due("notBelow(0, 7, 0)", x.notBelow(0, 7, 0), 0);
        due("notBelow(0, 6, 0)", x.notBelow(0, 6, 0), 1);
        due("notBelow(0, 7, 3)", x.notBelow(0, 7, 3), 3);
        due("notBelow(0, 7, 4)", x.notBelow(0, 7, 4), 14);
        due("notBelow(1, 5, 4)", x.notBelow(1, 5, 4), MISSING);
        due("notBelow(0, 7, 15)", x.notBelow(0, 7, 15), MISSING);
        due("notBelow(7, 7, 0)", x.notBelow(7, 7, 0), MISSING);
        due("notBelow(0, 7, 16)", x.notBelow(0, 7, 16), INVALID);
        due("notBelow(0, 7, -1)", x.notBelow(0, 7, -1), INVALID);
        due("notBelow(0, 8, 1)", x.notBelow(0, 8, 1), INVALID);
        due("notBelow(2, 1, 1)", x.notBelow(2, 1, 1), INVALID);
        due("notBelow(8, 8, 1)", x.notBelow(8, 8, 1), INVALID);
    }

    private static void dueSpan(String row, int from, int to, int... wants) {
        BitLevels x = rowOf(row);
        for (int what = 0; what < wants.length; what++) {
            due("spanOf(" + from + ", " + to + ", " + what + ") of " + row, x.spanOf(from, to, what), wants[what]);
        }
    }

    private static void promise17SpanOf() {
        dueSpan("f3132f0", 0, 7, 5, 3, 2, 39, 0, 13);
        dueSpan("f3132f0", 1, 6, 4, 3, 2, 24, 0, 3);
        dueSpan("f3132f0", 2, 4, 2, 1, 1, 4, 1, 0);
        dueSpan("f3132f0", 5, 6, 1, 15, 1, 15, 1, 0);
        dueSpan("f3132f0", 7, 7, 0, MISSING, MISSING, 0, 1, 0);
        dueSpan("0112230", 0, 6, 4, 1, 2, 9, 1, 0);
        dueSpan("0112230", 0, 7, 4, 0, 2, 9, 0, 5);
        dueSpan("ff0", 0, 2, 1, 15, 2, 30, 1, 0);
        dueSpan(many("1", 30) + many("0", 30), 0, 60, 2, 0, 30, 30, 0, 900);
        dueSpan("f3132f0", 0, 8, INVALID, INVALID, INVALID, INVALID, INVALID, INVALID);
        dueSpan("f3132f0", 2, 1, INVALID, INVALID, INVALID, INVALID, INVALID, INVALID);
        dueSpan("f3132f0", -1, 1, INVALID, INVALID, INVALID, INVALID, INVALID, INVALID);
        due("spanOf(0, 0, 6)", rowOf("1").spanOf(0, 0, 6), INVALID);
        due("spanOf(0, 1, -1)", rowOf("1").spanOf(0, 1, -1), INVALID);
    }

    private static void promise18Product() {
        BitLevels x = rowOf("f3102");
        due("product(0, 5)", x.product(0, 5), 16 * 4 * 2 * 3);
        due("product(1, 3)", x.product(1, 3), 8);
        due("product(3, 4)", x.product(3, 4), 1);
        due("product(5, 5)", x.product(5, 5), 1);
        due("product(0, 6)", x.product(0, 6), INVALID);
        due("product(3, 2)", x.product(3, 2), INVALID);
        due("product(-1, 2)", x.product(-1, 2), INVALID);
        due("product 16 ^ 15", rowOf(many("f", 15)).product(0, 15), 1L << 60);
        due("product 2 ^ 62", rowOf(many("f", 15) + "3").product(0, 16), 1L << 62);
        due("product 2 ^ 63", rowOf(many("f", 15) + "7").product(0, 16), LIMIT);
        due("product 2 ^ 64", rowOf(many("f", 16)).product(0, 16), LIMIT);
        due("product 2 ^ 240", rowOf(many("f", 60)).product(0, 60), LIMIT);
        due("product 15 ^ 16", rowOf(many("e", 16)).product(0, 16), 6568408355712890625L);
        due("product 14 ^ 16 * 4", rowOf(many("d", 16) + "3").product(0, 17), 8711813351237484544L);
        due("product 14 ^ 16 * 5", rowOf(many("d", 16) + "4").product(0, 17), LIMIT);
        // No product of 1 to 16 lies between this one and the greatest long.
        BitLevels nearest = rowOf("fffe8888886666666666" + "01");
        due("the greatest product", nearest.product(0, 21), 9223306985706024960L);
        due("twice the greatest product", nearest.product(0, 22), LIMIT);
        due("product of ones", rowOf(many("0", 60)).product(0, 60), 1);
    }

    private static void dueCommon(String row, int from, int to, int otherFrom, int otherTo, int... wants) {
        BitLevels x = rowOf(row);
        for (int what = 0; what < wants.length; what++) {
            String spans = from + ", " + to + ", " + otherFrom + ", " + otherTo + ", " + what;
            due("common(" + spans + ") of " + row, x.common(from, to, otherFrom, otherTo, what), wants[what]);
        }
    }

    private static void promise19Common() {
        dueCommon("3312" + "2335f", 0, 4, 4, 9, 2, 3, 2, 0);
        dueCommon("3312" + "2331", 0, 4, 4, 8, 3, 4, 1, 1);
        dueCommon("3312" + "2231", 0, 4, 4, 8, 3, 3, 1, 0);
        dueCommon("12" + "34", 0, 2, 2, 4, 0, 0, MISSING, 0);
        dueCommon("0ff", 0, 2, 1, 3, 1, 1, 15, 0);
        dueCommon("00f0", 0, 2, 1, 4, 1, 2, 0, 0);
        dueCommon("12", 0, 2, 2, 2, 0, 0, MISSING, 0);
        dueCommon("12", 0, 0, 2, 2, 0, 0, MISSING, 1);
        dueCommon("12", 0, 2, 0, 2, 2, 2, 1, 1);
        dueCommon("0", 0, 1, 1, 1, 0, 0, MISSING, 0);
        dueCommon("f", 0, 1, 1, 1, 0, 0, MISSING, 0);
        dueCommon("12", 0, 3, 0, 2, INVALID, INVALID, INVALID, INVALID);
        dueCommon("12", 0, 2, 0, 3, INVALID, INVALID, INVALID, INVALID);
        dueCommon("12", 1, 0, 0, 2, INVALID, INVALID, INVALID, INVALID);
        dueCommon("12", 0, 2, 1, 0, INVALID, INVALID, INVALID, INVALID);
        dueCommon("12", -1, 2, 0, 0, INVALID, INVALID, INVALID, INVALID);
        dueCommon("12", 0, 2, -1, 0, INVALID, INVALID, INVALID, INVALID);
        due("common, what 4", rowOf("12").common(0, 1, 0, 1, 4), INVALID);
        due("common, what -1", rowOf("12").common(0, 1, 0, 1, -1), INVALID);
    }

    private static void promise20Heaviest() {
        BitLevels x = rowOf("1720935");
        due("heaviest(1, 0)", x.heaviest(1, 0), 4);
        due("heaviest(1, 1)", x.heaviest(1, 1), 9);
        due("heaviest(3, 0)", x.heaviest(3, 0), 4);
        due("heaviest(3, 1)", x.heaviest(3, 1), 17);
        due("heaviest(4, 0)", x.heaviest(4, 0), 1);
        due("heaviest(4, 1)", x.heaviest(4, 1), 18);
        due("heaviest(7, 0)", x.heaviest(7, 0), 0);
        due("heaviest(7, 1)", x.heaviest(7, 1), 27);
        due("heaviest(8, 0)", x.heaviest(8, 0), MISSING);
        due("heaviest(60, 1)", x.heaviest(60, 1), MISSING);
        due("heaviest(0, 0)", x.heaviest(0, 0), INVALID);
        due("heaviest(61, 0)", x.heaviest(61, 0), INVALID);
        due("heaviest(-1, 0)", x.heaviest(-1, 0), INVALID);
        due("heaviest(1, 2)", x.heaviest(1, 2), INVALID);
        due("heaviest(8, -1)", x.heaviest(8, -1), INVALID);
        due("heaviest of several", rowOf("1551551").heaviest(2, 0), 1);
        due("heaviest of noughts", rowOf("000").heaviest(2, 0), 0);
        due("heaviest of a full row", rowOf(many("f", 60)).heaviest(60, 1), 900);
        due("heaviest at the end", rowOf(many("0", 59) + "1").heaviest(59, 0), 1);
    }

    private static void promise21Count() {
        BitLevels x = rowOf("f3132f000");
        write(x, "ab");
        due("count(0)", x.count(0), 9);
        due("count(1)", x.count(1), 5);
        due("count(2)", x.count(2), 14);
        due("count(3)", x.count(3), 2);
        due("count(4)", x.count(4), 4);
        due("count(5)", x.count(5), 2);
        due("count(6)", x.count(6), INVALID);
        due("count(-1)", x.count(-1), INVALID);
        due("count(most)", x.count(MOST), INVALID);
        due("count(3) of one", rowOf("1").count(3), 1);
        due("count(3) of eight", rowOf("12345678").count(3), 1);
        due("count(3) of sixty", rowOf(many("0", 60)).count(3), 8);
        due("count(2) of sixty", rowOf(many("f", 60)).count(2), 240);
        due("count(1) of all", rowOf("0123456789abcdef").count(1), 16);
    }

    private static void promise22Undo() {
        BitLevels x = new BitLevels();
        due("undo of a new object", x.undo(), IMPOSSIBLE);
        for (int symbol = 1; symbol <= 6; symbol++) {
            x.put(0, symbol);
            due("states after puts", x.count(4), Math.min(symbol, 4));
        }
        due("undo", x.undo(), 3);
        dueRow("undo", x, "54321");
        x.change(0, 15);
        due("states after undo and change", x.count(4), 4);
        due("undo", x.undo(), 3);
        due("undo", x.undo(), 2);
        due("undo", x.undo(), 1);
        due("undo", x.undo(), 0);
        dueRow("all undone", x, "21");
        due("undo of no state", x.undo(), IMPOSSIBLE);
        dueRow("refused undo", x, "21");
        write(x, "+0,12;");
        x.play();
        x.clearText();
        write(x, "x");
        due("undo play", x.undo(), 0);
        dueRow("undo play", x, "21");
        due("undo leaves the text", x.count(5), 1);
        x.put(9, 9);
        x.take(9);
        x.symbolAt(0);
        x.type('y');
        x.clearText();
        due("what is no change", x.count(4), 0);
    }

    private static void promise23Type() {
        BitLevels x = new BitLevels();
        due("type(31)", x.type(31), INVALID);
        due("type(127)", x.type(127), INVALID);
        due("type(least)", x.type(LEAST), INVALID);
        due("type(most)", x.type(MOST), INVALID);
        due("type(65568)", x.type(65568), INVALID);
        due("type(32)", x.type(32), 1);
        due("type(126)", x.type(126), 2);
        for (int length = 3; length <= 60; length++) {
            due("type to " + length, x.type('+'), length);
        }
        due("the 61st type", x.type('+'), LIMIT);
        due("the 61st type, no such character", x.type(127), INVALID);
        due("length", x.count(5), 60);
    }

    private static void promise24ClearText() {
        BitLevels x = rowOf("12");
        due("clearText of none", x.clearText(), 0);
        write(x, many("+0,1;", 12));
        due("clearText", x.clearText(), 60);
        due("clearText again", x.clearText(), 0);
        due("clearText: length", x.count(5), 0);
        due("clearText: fault", x.fault(0), MISSING);
        due("clearText: type", x.type('x'), 1);
        dueRow("clearText", x, "12");
        due("clearText: states", x.count(4), 2);
    }

    private static void dueFault(String row, String text, int position, int reason, int cause) {
        BitLevels x = rowOf(row);
        write(x, text);
        int states = x.count(4);
        String of = " of " + text + " on " + row;
        due("fault(0)" + of, x.fault(0), position);
        due("fault(1)" + of, x.fault(1), reason);
        due("fault(2)" + of, x.fault(2), cause);
        due("play()" + of, x.play(), IMPOSSIBLE);
        dueRow("refused play" + of, x, row);
        due("states after refused play" + of, x.count(4), states);
        due("length after refused play" + of, x.count(5), text.length());
    }

    private static void promise25FaultOfForm() {
        dueFault("12", " ", 0, 1, 0);
        dueFault("12", ";", 0, 1, 0);
        dueFault("12", "X0,1;", 0, 1, 0);
        dueFault("12", "+", 0, 1, 1);
        dueFault("12", "+,1;", 0, 1, 1);
        dueFault("12", "+a,1;", 0, 1, 1);
        dueFault("12", "+0", 0, 1, 2);
        dueFault("12", "+0;", 0, 1, 2);
        dueFault("12", "+00", 0, 1, 3);
        dueFault("12", "+000,1;", 0, 1, 3);
        dueFault("12", "+0,", 0, 1, 3);
        dueFault("12", "+0,;", 0, 1, 3);
        dueFault("12", "+0,g;", 0, 1, 3);
        dueFault("12", "+0,A;", 0, 1, 3);
        dueFault("12", "+0,12", 0, 1, 5);
        dueFault("12", "+0,1 ;", 0, 1, 4);
        dueFault("12", "+0,1+0,1;", 0, 1, 4);
        dueFault("12", "-0,;", 0, 1, 3);
        dueFault("12", "-0,a;", 0, 1, 3);
        dueFault("12", "-0,123;", 0, 1, 5);
        dueFault("12", "-00,00", 0, 1, 6);
        dueFault("12", "x0,1", 0, 1, 4);
        dueFault("12", "x0,-1;", 0, 1, 3);
        dueFault("12", "r0,2:", 0, 1, 4);
        dueFault("12", "+0,1;;", 5, 1, 0);
        dueFault("12", "+0,1;+0,1;r1", 10, 1, 2);
        // The form comes ahead of the places, and the first edit ahead of later ones.
        dueFault("12", "x9,9", 0, 1, 4);
        dueFault("12", "+9,12345", 0, 1, 8);
        dueFault("12", "x9,9;+", 0, 2, MISSING);
        dueFault("12", "x0,1;x9,9;+", 5, 2, MISSING);
        dueFault("12", "+" + many("0", 59), 0, 1, 3);
        dueFault("12", "+0," + many("a", 57), 0, 1, 60);
    }

    private static void promise25FaultOfPlaces() {
        dueFault("12", "+3,1;", 0, 2, MISSING);
        dueFault("12", "+99,1;", 0, 2, MISSING);
        dueFault("12", "-0,3;", 0, 2, MISSING);
        dueFault("12", "-2,1;", 0, 2, MISSING);
        dueFault("12", "-3,0;", 0, 2, MISSING);
        dueFault("12", "-99,99;", 0, 2, MISSING);
        dueFault("12", "x0,2;", 0, 2, MISSING);
        dueFault("12", "x2,0;", 0, 2, MISSING);
        dueFault("", "x0,0;", 0, 2, MISSING);
        dueFault("12", "r0,3;", 0, 2, MISSING);
        dueFault("12", "r2,1;", 0, 2, MISSING);
        dueFault("12", "r3,3;", 0, 2, MISSING);
        dueFault("12", "-0,1;x0,1;", 5, 2, MISSING);
        dueFault("12", "+2,3;x0,2;-0,1;x0,2;", 15, 2, MISSING);
        String full = many("f", 60);
        dueFault(full, "+0,1;", 0, 3, MISSING);
        dueFault(full, "+60,1;", 0, 3, MISSING);
        dueFault(full, "+61,1;", 0, 2, MISSING);
        dueFault(full, "-0,1;+0,11;", 5, 3, MISSING);
        dueFault(many("f", 58), "+58,1;+0,12;", 6, 3, MISSING);
    }

    private static void promise25NoFault() {
        BitLevels x = rowOf("12");
        due("fault of no text", x.fault(0), MISSING);
        due("fault(3)", x.fault(3), INVALID);
        due("fault(-1)", x.fault(-1), INVALID);
        write(x, "+2,3;x0,2;-3,0;r3,3;r0,0;");
        for (int what = 0; what <= 2; what++) {
            due("fault(" + what + ") of a possible text", x.fault(what), MISSING);
        }
        dueRow("fault", x, "12");
        due("fault: states", x.count(4), 2);
        // The same text may have a fault on another row.
        x.take(0);
        x.take(0);
        due("fault on another row", x.fault(0), 0);
    }

    private static void duePlay(String row, String text, String want) {
        BitLevels x = rowOf(row);
        write(x, text);
        String call = "play of " + text + " on " + row;
        due(call, x.play(), want.length());
        dueRow(call, x, want);
        due(call + ": length", x.count(5), text.length());
        due(call + ": states", x.count(4), Math.min(row.length() + 1, 4));
        x.undo();
        dueRow("undo of " + call, x, row);
    }

    private static void promise26Play() {
        duePlay("", "", "");
        duePlay("123", "", "123");
        duePlay("", "+0,0123456789abcdef;", "0123456789abcdef");
        duePlay("123", "+1,af;", "1af23");
        duePlay("123", "+03,9;", "1239");
        duePlay("12345", "-1,3;", "15");
        duePlay("12345", "-00,05;", "");
        duePlay("12345", "-5,0;-0,0;", "12345");
        duePlay("12345", "x0,4;", "52341");
        duePlay("12345", "x3,1;x2,2;", "14325");
        duePlay("12345", "r1,4;", "14325");
        duePlay("12345", "r0,5;r5,5;r2,3;", "54321");
        duePlay("12", "+2,34;-0,1;x0,2;r0,2;", "342");
        String forty = many("5", 40);
        duePlay(forty, "+40,12345678901234567890;", forty + "12345678901234567890");
        duePlay(forty + forty.substring(20), "-59,1;+10,3;x10,59;", many("5", 59) + "3");
        BitLevels x = rowOf("1");
        write(x, "+0,2;");
        due("play", x.play(), 2);
        due("play again", x.play(), 3);
        dueRow("play twice", x, "221");
    }

    public static void main(String[] args) {
        constants();
        promise1NewObject();
        promise2Put();
        promise3Take();
        promise4Change();
        promise5Swap();
        promise6Turn();
        promise7Sort();
        promise8LevelOf();
        promise9BlockOf();
        promise10Bits();
        promise11SymbolAt();
        promise12Rank();
        promise13Select();
        promise14Smallest();
        promise15Below();
        promise16NotBelow();
        promise17SpanOf();
        promise18Product();
        promise19Common();
        promise20Heaviest();
        promise21Count();
        promise22Undo();
        promise23Type();
        promise24ClearText();
        promise25FaultOfForm();
        promise25FaultOfPlaces();
        promise25NoFault();
        promise26Play();
        System.out.println(wrong == 0 ? "all promises hold" : wrong + " answers are not as due");
        if (wrong != 0) {
            System.exit(1);
        }
    }
}
