/** The sentences of the promises 1 to 7 and 22: a new object, edits, and undo. */
public final class EditSentencesTest extends Sentences {
    private static final String FULL = "7".repeat(59) + "8";

    private static void promise1() {
        section("Promise 1: A new object");
        says("`BitLevels()`: Creates an empty row.");
        BitLevels used = withText("5a3f", "+0,1;");
        BitLevels x = new BitLevels();
        for (int what = 0; what <= 5; what++) {
            due("count(" + what + ")", x.count(what), 0);
        }
        for (int level = 0; level <= 3; level++) {
            due("bits(" + level + ")", x.bits(level), 0);
            due("blockOf(" + level + ", 0, 0)", x.blockOf(level, 0, 0), MISSING);
        }
        due("symbolAt(0)", x.symbolAt(0), MISSING);
        due("take(0)", x.take(0), INVALID);
        due("undo()", x.undo(), IMPOSSIBLE);
        due("fault(0)", x.fault(0), MISSING);
        dueRow("another new object", used, "5a3f");
    }

    private static void promise2() {
        section("Promise 2: put");
        says("`int put(int place, int symbol)`: Puts a symbol into the row.");
        BitLevels x = withRow("13");
        x.put(1, 2);
        dueRow("put between", x, "123");
        x.put(0, 15);
        dueRow("put ahead", x, "f123");
        x.put(4, 0);
        dueRow("put behind", x, "f1230");
        says("- `place`: 0 to the number of symbols");
        dueRange("put(?, 7) into none", 0, 0, place -> withRow("").put(place, 7));
        dueRange("put(?, 7) into two", 0, 2, place -> withRow("12").put(place, 7));
        dueRange("put(?, 7) into 59", 0, 59, place -> withRow("f".repeat(59)).put(place, 7));
        says("- `symbol`: 0 to 15");
        dueRange("put(1, ?)", 0, 15, symbol -> withRow("12").put(1, symbol));
        for (int symbol = 0; symbol <= 15; symbol++) {
            BitLevels one = new BitLevels();
            one.put(0, symbol);
            due("symbolAt(0) after put(0, " + symbol + ")", one.symbolAt(0), symbol);
        }
        says("Returns how many symbols there are then");
        BitLevels filled = new BitLevels();
        for (int many = 1; many <= 60; many++) {
            due("put of the " + many + "th", filled.put(many / 2, many % 16), many);
        }
        filled.take(0);
        due("put after take", filled.put(0, 0), 60);
        says("INVALID_ARGUMENT if an argument is out of range");
        dueError("put(3, 7)", INVALID, () -> withRow("12"), one -> one.put(3, 7));
        dueError("put(-1, 7)", INVALID, () -> withRow("12"), one -> one.put(-1, 7));
        dueError("put(0, 16)", INVALID, () -> withRow("12"), one -> one.put(0, 16));
        dueError("put(0, -1)", INVALID, () -> withRow("12"), one -> one.put(0, -1));
        dueError("put(3, 16)", INVALID, () -> withRow("12"), one -> one.put(3, 16));
        says("LIMIT_REACHED if there are 60.");
        dueError("put(0, 1) into 60", LIMIT, () -> withRow(FULL), one -> one.put(0, 1));
        dueError("put(59, 15) into 60", LIMIT, () -> withRow(FULL), one -> one.put(59, 15));
        dueError("put(60, 0) into 60", LIMIT, () -> withRow(FULL), one -> one.put(60, 0));
        due("put into 59", withRow(FULL.substring(1)).put(59, 0), 60);
    }

    private static void promise3() {
        section("Promise 3: take");
        says("`int take(int place)`: Takes a symbol out of the row.");
        BitLevels x = withRow("0123f");
        x.take(2);
        dueRow("take(2)", x, "013f");
        x.take(0);
        dueRow("take(0)", x, "13f");
        x.take(2);
        dueRow("take(2)", x, "13");
        BitLevels full = withRow(FULL);
        full.take(0);
        dueRow("take(0) of 60", full, FULL.substring(1));
        says("- `place`: a place of the row");
        dueRange("take of three", 0, 2, place -> withRow("123").take(place));
        dueRange("take of one", 0, 0, place -> withRow("f").take(place));
        dueRange("take of 60", 0, 59, place -> withRow(FULL).take(place));
        dueRefused("take of none", place -> withRow("").take(place), -1, 0, 1, LEAST, MOST);
        says("Returns the symbol");
        due("take(0)", withRow("f03").take(0), 15);
        due("take(1)", withRow("f03").take(1), 0);
        due("take(2)", withRow("f03").take(2), 3);
        due("take(59) of 60", withRow(FULL).take(59), 8);
        says("INVALID_ARGUMENT.");
        dueError("take(3)", INVALID, () -> withRow("123"), one -> one.take(3));
        dueError("take(-1)", INVALID, () -> withRow("123"), one -> one.take(-1));
        dueError("take(0) of none", INVALID, () -> withRow(""), one -> one.take(0));
        dueError("take(60) of 60", INVALID, () -> withRow(FULL), one -> one.take(60));
    }

    private static void promise4() {
        section("Promise 4: change");
        says("`int change(int place, int symbol)`: Changes a symbol.");
        BitLevels x = withRow("123");
        x.change(1, 15);
        dueRow("change(1, 15)", x, "1f3");
        x.change(0, 0);
        dueRow("change(0, 0)", x, "0f3");
        x.change(2, 3);
        dueRow("change(2, 3)", x, "0f3");
        says("- `place`: a place of the row");
        dueRange("change(?, 7) of three", 0, 2, place -> withRow("123").change(place, 7));
        dueRange("change(?, 7) of 60", 0, 59, place -> withRow(FULL).change(place, 7));
        dueRefused("change(?, 7) of none", place -> withRow("").change(place, 7), -1, 0, 1, LEAST, MOST);
        says("- `symbol`: 0 to 15");
        dueRange("change(1, ?)", 0, 15, symbol -> withRow("123").change(1, symbol));
        says("Returns the symbol that was there");
        due("change(0, 5)", withRow("f03").change(0, 5), 15);
        due("change(1, 5)", withRow("f03").change(1, 5), 0);
        due("change(2, 3)", withRow("f03").change(2, 3), 3);
        due("change(59, 0) of 60", withRow(FULL).change(59, 0), 8);
        says("INVALID_ARGUMENT if an argument is out of range.");
        dueError("change(3, 7)", INVALID, () -> withRow("123"), one -> one.change(3, 7));
        dueError("change(-1, 7)", INVALID, () -> withRow("123"), one -> one.change(-1, 7));
        dueError("change(0, 16)", INVALID, () -> withRow("123"), one -> one.change(0, 16));
        dueError("change(0, -1)", INVALID, () -> withRow("123"), one -> one.change(0, -1));
        dueError("change(0, 0) of none", INVALID, () -> withRow(""), one -> one.change(0, 0));
    }

    private static void promise5() {
        section("Promise 5: swap");
        says("`int swap(int one, int other)`: Lets two symbols change places.");
        BitLevels x = withRow("01231");
        x.swap(0, 4);
        dueRow("swap(0, 4)", x, "11230");
        x.swap(3, 2);
        dueRow("swap(3, 2)", x, "11320");
        x.swap(0, 1);
        x.swap(2, 2);
        dueRow("swap(0, 1) and swap(2, 2)", x, "11320");
        says("- `one`: a place of the row");
        dueRange("swap(?, 1) of three", 0, 2, one -> withRow("123").swap(one, 1));
        dueRange("swap(?, 0) of 60", 0, 59, one -> withRow(FULL).swap(one, 0));
        dueRefused("swap(?, 0) of none", one -> withRow("").swap(one, 0), -1, 0, 1);
        says("- `other`: a place of the row");
        dueRange("swap(1, ?) of three", 0, 2, other -> withRow("123").swap(1, other));
        dueRange("swap(0, ?) of 60", 0, 59, other -> withRow(FULL).swap(0, other));
        says("Returns 1 if the row is another one then, otherwise 0");
        due("swap of unlike ones", withRow("123").swap(0, 2), 1);
        due("swap of unlike ones, the later one first", withRow("123").swap(2, 1), 1);
        due("swap of like ones", withRow("121").swap(0, 2), 0);
        due("swap with itself", withRow("123").swap(1, 1), 0);
        due("swap with itself at 59", withRow(FULL).swap(59, 59), 0);
        due("swap of 0 and 15", withRow("0f").swap(0, 1), 1);
        says("INVALID_ARGUMENT.");
        dueError("swap(3, 0)", INVALID, () -> withRow("123"), one -> one.swap(3, 0));
        dueError("swap(0, 3)", INVALID, () -> withRow("123"), one -> one.swap(0, 3));
        dueError("swap(-1, 0)", INVALID, () -> withRow("123"), one -> one.swap(-1, 0));
        dueError("swap(0, -1)", INVALID, () -> withRow("123"), one -> one.swap(0, -1));
        dueError("swap(3, 3)", INVALID, () -> withRow("123"), one -> one.swap(3, 3));
    }

    private static void dueTurned(String row, int from, int to, String want) {
        BitLevels x = withRow(row);
        x.turn(from, to);
        dueRow("turn(" + from + ", " + to + ") of " + row, x, want);
    }

    private static void promise6() {
        section("Promise 6: turn");
        says("`int turn(int from, int to)`: Turns a span around.");
        dueTurned("0123f", 0, 5, "f3210");
        dueTurned("0123f", 1, 3, "0213f");
        dueTurned("0123f", 1, 4, "0321f");
        dueTurned("0123f", 2, 3, "0123f");
        dueTurned(FULL, 0, 60, "8" + FULL.substring(0, 59));
        says("- `from`: the first place of the span");
        dueTurned("0123f", 3, 5, "012f3");
        dueTurned("0123f", 0, 2, "1023f");
        dueFrom("turn", BitLevels::turn);
        says("- `to`: the place behind it");
        dueTurned("0123f", 0, 4, "3210f");
        dueTurned("0123f", 4, 5, "0123f");
        dueTurned("0123f", 5, 5, "0123f");
        dueTurned("0123f", 0, 0, "0123f");
        dueTo("turn", BitLevels::turn);
        says("Returns how many places have another symbol then");
        due("turn of all unlike", withRow("0123").turn(0, 4), 4);
        due("turn with one in the middle", withRow("0123f").turn(0, 5), 4);
        due("turn of like ends", withRow("1221a").turn(0, 4), 0);
        due("turn with like inner ones", withRow("12213").turn(0, 5), 4);
        due("turn with like ends", withRow("1231").turn(0, 4), 2);
        due("turn of one", withRow("123").turn(1, 2), 0);
        due("turn of none", withRow("123").turn(1, 1), 0);
        due("turn of none behind the last", withRow("123").turn(3, 3), 0);
        due("turn of an empty row", withRow("").turn(0, 0), 0);
        due("turn of 60", withRow("01".repeat(30)).turn(0, 60), 60);
        says("INVALID_ARGUMENT.");
        dueError("turn(0, 4)", INVALID, () -> withRow("123"), one -> one.turn(0, 4));
        dueError("turn(2, 1)", INVALID, () -> withRow("123"), one -> one.turn(2, 1));
        dueError("turn(-1, 2)", INVALID, () -> withRow("123"), one -> one.turn(-1, 2));
        dueError("turn(4, 4)", INVALID, () -> withRow("123"), one -> one.turn(4, 4));
    }

    private static void dueSorted(String row, int from, int to, String want) {
        BitLevels x = withRow(row);
        x.sort(from, to);
        dueRow("sort(" + from + ", " + to + ") of " + row, x, want);
    }

    private static void promise7() {
        section("Promise 7: sort");
        says("`int sort(int from, int to)`: Sorts a span, the least symbols first.");
        dueSorted("f3210", 0, 5, "0123f");
        dueSorted("33021130", 1, 7, "30112330");
        dueSorted("0123", 0, 4, "0123");
        dueSorted("f0".repeat(30), 0, 60, "0".repeat(30) + "f".repeat(30));
        dueSorted("fedcba9876543210", 0, 16, "0123456789abcdef");
        says("- `from`: the first place of the span");
        dueSorted("f3210", 3, 5, "f3201");
        dueSorted("f3210", 0, 2, "3f210");
        dueFrom("sort", BitLevels::sort);
        says("- `to`: the place behind it");
        dueSorted("f3210", 0, 4, "123f0");
        dueSorted("f3210", 2, 3, "f3210");
        dueSorted("f3210", 2, 2, "f3210");
        dueSorted("f3210", 5, 5, "f3210");
        dueTo("sort", BitLevels::sort);
        says("Returns how many places have another symbol then");
        due("sort of a turned span", withRow("f3210").sort(1, 4), 2);
        due("sort of all", withRow("3210").sort(0, 4), 4);
        due("sort with like ones", withRow("33021130").sort(1, 7), 5);
        due("sort of a sorted span", withRow("0112").sort(0, 4), 0);
        due("sort of one", withRow("210").sort(1, 2), 0);
        due("sort of none", withRow("210").sort(1, 1), 0);
        due("sort of none behind the last", withRow("210").sort(3, 3), 0);
        due("sort of an empty row", withRow("").sort(0, 0), 0);
        due("sort of 60", withRow("f".repeat(30) + "0".repeat(30)).sort(0, 60), 60);
        says("INVALID_ARGUMENT.");
        dueError("sort(0, 4)", INVALID, () -> withRow("321"), one -> one.sort(0, 4));
        dueError("sort(2, 1)", INVALID, () -> withRow("321"), one -> one.sort(2, 1));
        dueError("sort(-1, 2)", INVALID, () -> withRow("321"), one -> one.sort(-1, 2));
        dueError("sort(4, 4)", INVALID, () -> withRow("321"), one -> one.sort(4, 4));
    }

    private static void promise22() {
        section("Promise 22: undo");
        says("`int undo()`: Restores the latest state of the history, which is removed from it.");
        BitLevels x = withRow("123");
        x.turn(0, 3);
        x.take(0);
        x.undo();
        dueRow("undo of take", x, "321");
        due("states", x.count(4), 3);
        x.undo();
        dueRow("undo of turn", x, "123");
        x.undo();
        dueRow("undo of put", x, "12");
        x.change(0, 9);
        x.undo();
        dueRow("undo of change after undo", x, "12");
        x.undo();
        dueRow("undo of put", x, "1");
        says("Returns the number of states that are left in the history");
        BitLevels four = withRow("12345");
        for (int left = 3; left >= 0; left--) {
            due("undo", four.undo(), left);
            due("states", four.count(4), left);
        }
        four.put(0, 0);
        due("undo of the only state", four.undo(), 0);
        says("NOT_POSSIBLE if it is empty.");
        dueError("undo of a new object", IMPOSSIBLE, BitLevels::new, BitLevels::undo);
        dueError("undo when all is undone", IMPOSSIBLE, () -> undone("123456", 4), BitLevels::undo);
        due("undo of the last state", undone("123456", 3).undo(), 0);
        BitLevels twice = undone("1", 2);
        due("undo once more", twice.undo(), IMPOSSIBLE);
    }

    private static BitLevels undone(String row, int times) {
        BitLevels x = withText(row, "+0,5;");
        for (int time = 0; time < times; time++) {
            x.undo();
        }
        return x;
    }

    public static void main(String[] args) throws Exception {
        readDocument();
        promise1();
        promise2();
        promise3();
        promise4();
        promise5();
        promise6();
        promise7();
        promise22();
        end();
    }
}
