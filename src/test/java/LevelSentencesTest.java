/** The sentences of the promises 8 to 13: levels and ranks. */
public final class LevelSentencesTest extends Sentences {
    // 5 a 3 f 0 c 7 1 as bits: 0101 1010 0011 1111 0000 1100 0111 0001
    private static final String ROW = "5a3f0c71";

    /** What levelOf answers at the places of a level, one hexadecimal digit each. */
    private static void dueLevel(String row, int level, int what, String want) {
        BitLevels x = withRow(row);
        for (int place = 0; place < want.length(); place++) {
            due("levelOf(" + level + ", " + place + ", " + what + ") of " + row, x.levelOf(level, place, what),
                    Character.digit(want.charAt(place), 16));
        }
    }

    private static void promise8() {
        section("Promise 8: levelOf");
        says("`int levelOf(int level, int place, int what)`: Returns something of a place of a level.");
        dueLevel(ROW, 1, 0, "53071afc");
        dueLevel(ROW, 1, 1, "10010011");
        dueLevel(ROW, 1, 2, "40152367");
        dueLevel(ROW, 1, 3, "02467135");
        says("- `level`: 0 to 4");
        for (int what = 0; what <= 3; what++) {
            int asked = what;
            dueRange("levelOf(?, 0, " + what + ")", 0, 4, level -> withRow(ROW).levelOf(level, 0, asked));
        }
        says("- `place`: a place of the row");
        for (int level = 0; level <= 4; level++) {
            for (int what = 0; what <= 3; what++) {
                int on = level;
                int asked = what;
                String call = "levelOf(" + level + ", ?, " + what + ")";
                dueRange(call, 0, 7, place -> withRow(ROW).levelOf(on, place, asked));
                dueRange(call + " of 60", 0, 59, place -> withRow("c".repeat(60)).levelOf(on, place, asked));
                dueRefused(call + " of none", place -> withRow("").levelOf(on, place, asked), -1, 0, 1);
            }
        }
        says("- `what`: ");
        for (int level = 0; level <= 4; level++) {
            int on = level;
            dueRange("levelOf(" + level + ", 0, ?)", 0, 3, what -> withRow(ROW).levelOf(on, 0, what));
        }
        promise8What();
        says("Returns the number");
        due("levelOf(3, 59, 2) of 60", withRow("f".repeat(60)).levelOf(3, 59, 2), 59);
        due("levelOf(4, 59, 3) of 60", withRow("f".repeat(59) + "0").levelOf(4, 59, 3), 58);
        due("levelOf(4, 0, 3) of 60", withRow("f".repeat(59) + "0").levelOf(4, 0, 3), 59);
        says("INVALID_ARGUMENT if an argument is out of range");
        dueError("levelOf(5, 0, 0)", INVALID, () -> withRow("12"), x -> x.levelOf(5, 0, 0));
        dueError("levelOf(-1, 0, 0)", INVALID, () -> withRow("12"), x -> x.levelOf(-1, 0, 0));
        dueError("levelOf(0, 2, 0)", INVALID, () -> withRow("12"), x -> x.levelOf(0, 2, 0));
        dueError("levelOf(0, -1, 0)", INVALID, () -> withRow("12"), x -> x.levelOf(0, -1, 0));
        dueError("levelOf(0, 0, 4)", INVALID, () -> withRow("12"), x -> x.levelOf(0, 0, 4));
        dueError("levelOf(0, 0, -1)", INVALID, () -> withRow("12"), x -> x.levelOf(0, 0, -1));
        says("NOT_FOUND for 1 and 2 of level 4.");
        for (int place = 0; place < 8; place++) {
            due("levelOf(4, " + place + ", 1)", withRow(ROW).levelOf(4, place, 1), MISSING);
            due("levelOf(4, " + place + ", 2)", withRow(ROW).levelOf(4, place, 2), MISSING);
        }
        dueError("levelOf(4, 0, 1)", MISSING, () -> withRow("12"), x -> x.levelOf(4, 0, 1));
        dueLevel(ROW, 3, 1, "01101011");
        dueLevel(ROW, 4, 0, "0ca1537f");
        dueLevel(ROW, 4, 3, "45170263");
    }

    private static void promise8What() {
        says("0: the symbol there");
        dueLevel(ROW, 0, 0, "5a3f0c71");
        dueLevel(ROW, 2, 0, "301a57fc");
        dueLevel(ROW, 3, 0, "015c3a7f");
        dueLevel(ROW, 4, 0, "0ca1537f");
        says("1: its bit");
        dueLevel(ROW, 0, 1, "01010100");
        dueLevel(ROW, 2, 1, "10010110");
        dueLevel(ROW, 3, 1, "01101011");
        says("2: the place to which it goes in the next level");
        dueLevel(ROW, 0, 2, "05162734");
        dueLevel(ROW, 2, 2, "40152673");
        dueLevel(ROW, 3, 2, "03415267");
        says("3: the place of the row (level 0) from which it came");
        dueLevel(ROW, 0, 3, "01234567");
        dueLevel(ROW, 2, 3, "24710635");
        dueLevel(ROW, 3, 3, "47052163");
        dueLevel(ROW, 4, 3, "45170263");
    }

    private static void promise9() {
        section("Promise 9: blockOf");
        says("`int blockOf(int level, int block, int what)`: Returns something of a block of a level.");
        due("blockOf(1, 0, 0)", withRow(ROW).blockOf(1, 0, 0), 0b11001001);
        due("blockOf(3, 0, 0)", withRow(ROW).blockOf(3, 0, 0), 0b11010110);
        says("- `level`: 0 to 3");
        dueRange("blockOf(?, 0, 0)", 0, 3, level -> withRow(ROW).blockOf(level, 0, 0));
        dueRange("blockOf(?, 0, 2) of none", 0, 3, level -> withRow("").blockOf(level, 0, 2));
        dueRefused("blockOf(?, 9, 1)", level -> withRow(ROW).blockOf(level, 9, 1), -1, 4, LEAST, MOST);
        says("- `block`: number of the block, from 0");
        String row = "8".repeat(8) + "88888000" + "8";
        due("blockOf(0, 0, 1)", withRow(row).blockOf(0, 0, 1), 8);
        due("blockOf(0, 1, 1)", withRow(row).blockOf(0, 1, 1), 5);
        due("blockOf(0, 2, 1)", withRow(row).blockOf(0, 2, 1), 1);
        dueTaken("blockOf(0, ?, 1)", block -> withRow(row).blockOf(0, block, 1), 0, 2, 3, MOST);
        dueRefused("blockOf(0, ?, 1)", block -> withRow(row).blockOf(0, block, 1), -1, -2, LEAST);
        promise9What();
        says("Returns the number");
        due("blockOf(0, 0, 0) of ones", withRow("f".repeat(8)).blockOf(0, 0, 0), 255);
        due("blockOf(3, 7, 0) of 60 ones", withRow("f".repeat(60)).blockOf(3, 7, 0), 15);
        due("blockOf(3, 7, 1) of 60 ones", withRow("f".repeat(60)).blockOf(3, 7, 1), 4);
        due("blockOf(3, 7, 2) of 60 ones", withRow("f".repeat(60)).blockOf(3, 7, 2), 56);
        says("INVALID_ARGUMENT if an argument is out of range or negative");
        dueError("blockOf(4, 0, 0)", INVALID, () -> withRow("12"), x -> x.blockOf(4, 0, 0));
        dueError("blockOf(-1, 0, 0)", INVALID, () -> withRow("12"), x -> x.blockOf(-1, 0, 0));
        dueError("blockOf(0, -1, 0)", INVALID, () -> withRow("12"), x -> x.blockOf(0, -1, 0));
        dueError("blockOf(0, 0, 3)", INVALID, () -> withRow("12"), x -> x.blockOf(0, 0, 3));
        dueError("blockOf(0, 0, -1)", INVALID, () -> withRow("12"), x -> x.blockOf(0, 0, -1));
        says("NOT_FOUND if there are not so many blocks.");
        dueError("blockOf(0, 1, 0) of two", MISSING, () -> withRow("12"), x -> x.blockOf(0, 1, 0));
        due("blockOf(0, 0, 0) of none", withRow("").blockOf(0, 0, 0), MISSING);
        due("blockOf(3, 0, 2) of none", withRow("").blockOf(3, 0, 2), MISSING);
        due("blockOf(0, 1, 1) of eight", withRow(ROW).blockOf(0, 1, 1), MISSING);
        due("blockOf(0, 1, 2) of eight", withRow(ROW).blockOf(0, 1, 2), MISSING);
        due("blockOf(0, 1, 1) of nine", withRow(ROW + "8").blockOf(0, 1, 1), 1);
        due("blockOf(0, 2, 1) of nine", withRow(ROW + "8").blockOf(0, 2, 1), MISSING);
        due("blockOf(0, 8, 0) of 60", withRow("f".repeat(60)).blockOf(0, 8, 0), MISSING);
        // 8 times these numbers is 0 in an int, or less.
        due("blockOf(0, 2^29, 0)", withRow(ROW).blockOf(0, 1 << 29, 0), MISSING);
        due("blockOf(0, 2^28, 1)", withRow(ROW).blockOf(0, 1 << 28, 1), MISSING);
        due("blockOf(0, 2^30, 1)", withRow(ROW).blockOf(0, 1 << 30, 1), MISSING);
        due("blockOf(0, most, 2)", withRow(ROW).blockOf(0, MOST, 2), MISSING);
    }

    private static void promise9What() {
        BitLevels x = withRow("8080808f" + "00000088" + "f");
        says("- `what`: ");
        dueRange("blockOf(0, 1, ?)", 0, 2, what -> x.blockOf(0, 1, what));
        dueRefused("blockOf(0, 3, ?)", what -> x.blockOf(0, 3, what), -1, 3);
        says("0: its bits, the first one being bit 0 of the number");
        due("blockOf(0, 0, 0)", x.blockOf(0, 0, 0), 0b11010101);
        due("blockOf(0, 1, 0)", x.blockOf(0, 1, 0), 0b11000000);
        due("blockOf(0, 2, 0)", x.blockOf(0, 2, 0), 1);
        says("1: how many of its bits are 1");
        due("blockOf(0, 0, 1)", x.blockOf(0, 0, 1), 5);
        due("blockOf(0, 1, 1)", x.blockOf(0, 1, 1), 2);
        due("blockOf(0, 2, 1)", x.blockOf(0, 2, 1), 1);
        due("blockOf(2, 0, 1)", x.blockOf(2, 0, 1), 0);
        says("2: how many bits ahead of it are 1");
        due("blockOf(0, 0, 2)", x.blockOf(0, 0, 2), 0);
        due("blockOf(0, 1, 2)", x.blockOf(0, 1, 2), 5);
        due("blockOf(0, 2, 2)", x.blockOf(0, 2, 2), 7);
        due("blockOf(2, 2, 2)", x.blockOf(2, 2, 2), 1);
    }

    private static void promise10() {
        section("Promise 10: bits");
        says("`long bits(int level)`: Returns the bits of a level, the one at the place k being bit k.");
        BitLevels x = withRow(ROW);
        due("bits(0)", x.bits(0), 0b00101010);
        due("bits(1)", x.bits(1), 0b11001001);
        due("bits(2)", x.bits(2), 0b01101001);
        due("bits(3)", x.bits(3), 0b11010110);
        says("- `level`: 0 to 3");
        dueRange("bits", 0, 3, level -> withRow(ROW).bits(level));
        dueRange("bits of none", 0, 3, level -> withRow("").bits(level));
        says("Returns the bits");
        due("bits of 60 ones", withRow("f".repeat(60)).bits(3), (1L << 60) - 1);
        due("bits of the last one of 60", withRow("0".repeat(59) + "8").bits(0), 1L << 59);
        due("bits of the last one of 60 on level 3", withRow("1" + "0".repeat(59)).bits(3), 1);
        due("bits beyond an int", withRow("0".repeat(31) + "88").bits(0), 3L << 31);
        due("bits of 32", withRow("8".repeat(32)).bits(0), 4294967295L);
        due("bits of none", withRow("").bits(0), 0);
        says("INVALID_ARGUMENT if level is out of range.");
        dueError("bits(4)", INVALID, () -> withRow("12"), one -> one.bits(4));
        dueError("bits(-1)", INVALID, () -> withRow("12"), one -> one.bits(-1));
    }

    private static void promise11() {
        section("Promise 11: symbolAt");
        says("`int symbolAt(int place)`: Returns a symbol of the row.");
        due("symbolAt(1)", withRow("5af").symbolAt(1), 10);
        says("- `place`: 0 or more");
        dueTaken("symbolAt", place -> withRow("5af").symbolAt(place), 0, 2, 3, 59, 60, 61, MOST);
        dueTaken("symbolAt of none", place -> withRow("").symbolAt(place), 0, 1, MOST);
        says("Returns the symbol");
        due("symbolAt(0)", withRow("5af").symbolAt(0), 5);
        due("symbolAt(2)", withRow("5af").symbolAt(2), 15);
        due("symbolAt(59) of 60", withRow("1".repeat(59) + "2").symbolAt(59), 2);
        due("symbolAt(0) of a nought", withRow("0").symbolAt(0), 0);
        says("INVALID_ARGUMENT if place is negative");
        dueRefused("symbolAt", place -> withRow("5af").symbolAt(place), -1, -60, LEAST);
        dueRefused("symbolAt of none", place -> withRow("").symbolAt(place), -1, LEAST);
        dueError("symbolAt(-1)", INVALID, () -> withRow("5af"), x -> x.symbolAt(-1));
        says("NOT_FOUND if there are not so many.");
        due("symbolAt(0) of none", withRow("").symbolAt(0), MISSING);
        due("symbolAt(60) of 60", withRow("1".repeat(60)).symbolAt(60), MISSING);
        due("symbolAt(most)", withRow("5af").symbolAt(MOST), MISSING);
        dueError("symbolAt(3) of three", MISSING, () -> withRow("5af"), x -> x.symbolAt(3));
        BitLevels x = withRow("5af");
        x.take(0);
        due("symbolAt(2) after take", x.symbolAt(2), MISSING);
    }

    private static void promise12() {
        section("Promise 12: rank");
        says("`int rank(int symbol, int to)`: Counts a symbol ahead of a place.");
        due("rank(3, 3)", withRow("3132f3").rank(3, 3), 2);
        due("rank(1, 3)", withRow("3132f3").rank(1, 3), 1);
        says("- `symbol`: 0 to 15");
        dueRange("rank(?, 0)", 0, 15, symbol -> withRow("3132f3").rank(symbol, 0));
        dueRange("rank(?, 6)", 0, 15, symbol -> withRow("3132f3").rank(symbol, 6));
        says("- `to`: 0 to the number of symbols");
        dueRange("rank(3, ?)", 0, 6, to -> withRow("3132f3").rank(3, to));
        dueRange("rank(3, ?) of none", 0, 0, to -> withRow("").rank(3, to));
        dueRange("rank(3, ?) of 60", 0, 60, to -> withRow("3".repeat(60)).rank(3, to));
        says("Returns how often it stands at places below that");
        due("rank(3, 0)", withRow("3132f3").rank(3, 0), 0);
        due("rank(3, 1)", withRow("3132f3").rank(3, 1), 1);
        due("rank(3, 2)", withRow("3132f3").rank(3, 2), 1);
        due("rank(3, 5)", withRow("3132f3").rank(3, 5), 2);
        due("rank(3, 6)", withRow("3132f3").rank(3, 6), 3);
        due("rank(15, 4)", withRow("3132f3").rank(15, 4), 0);
        due("rank(15, 5)", withRow("3132f3").rank(15, 5), 1);
        due("rank(0, 6)", withRow("3132f3").rank(0, 6), 0);
        due("rank(0, 60) of 60", withRow("0".repeat(60)).rank(0, 60), 60);
        says("INVALID_ARGUMENT if an argument is out of range.");
        dueError("rank(16, 0)", INVALID, () -> withRow("12"), x -> x.rank(16, 0));
        dueError("rank(-1, 0)", INVALID, () -> withRow("12"), x -> x.rank(-1, 0));
        dueError("rank(1, 3)", INVALID, () -> withRow("12"), x -> x.rank(1, 3));
        dueError("rank(1, -1)", INVALID, () -> withRow("12"), x -> x.rank(1, -1));
    }

    private static void promise13() {
        section("Promise 13: select");
        says("`int select(int symbol, int time)`: Finds where a symbol stands for some time.");
        due("select(3, 1)", withRow("3132f3").select(3, 1), 2);
        due("select(2, 0)", withRow("3132f3").select(2, 0), 3);
        says("- `symbol`: 0 to 15");
        dueRange("select(?, 0)", 0, 15, symbol -> withRow("3132f3").select(symbol, 0));
        dueRefused("select(?, 9)", symbol -> withRow("3132f3").select(symbol, 9), -1, 16);
        says("- `time`: 0 for the first time, and so on");
        due("select(3, 0)", withRow("3132f3").select(3, 0), 0);
        due("select(3, 2)", withRow("3132f3").select(3, 2), 5);
        dueTaken("select(3, ?)", time -> withRow("3132f3").select(3, time), 0, 2, 3, 60, MOST);
        says("Returns the place");
        due("select(15, 0)", withRow("3132f3").select(15, 0), 4);
        due("select(0, 0) of a nought", withRow("0").select(0, 0), 0);
        due("select(0, 59) of 60", withRow("0".repeat(60)).select(0, 59), 59);
        due("select(8, 0) at 59", withRow("7".repeat(59) + "8").select(8, 0), 59);
        says("INVALID_ARGUMENT if symbol is out of range or time is negative");
        dueRefused("select(3, ?)", time -> withRow("3132f3").select(3, time), -1, -2, LEAST);
        dueRefused("select(0, ?)", time -> withRow("3132f3").select(0, time), -1, LEAST);
        dueError("select(16, 0)", INVALID, () -> withRow("12"), x -> x.select(16, 0));
        dueError("select(-1, 0)", INVALID, () -> withRow("12"), x -> x.select(-1, 0));
        dueError("select(1, -1)", INVALID, () -> withRow("12"), x -> x.select(1, -1));
        says("NOT_FOUND if it does not stand there so often.");
        due("select(3, 3)", withRow("3132f3").select(3, 3), MISSING);
        due("select(0, 0)", withRow("3132f3").select(0, 0), MISSING);
        due("select(3, most)", withRow("3132f3").select(3, MOST), MISSING);
        due("select(0, 0) of none", withRow("").select(0, 0), MISSING);
        due("select(0, 60) of 60", withRow("0".repeat(60)).select(0, 60), MISSING);
        dueError("select(1, 1)", MISSING, () -> withRow("12"), x -> x.select(1, 1));
    }

    public static void main(String[] args) throws Exception {
        readDocument();
        promise8();
        promise9();
        promise10();
        promise11();
        promise12();
        promise13();
        end();
    }
}
