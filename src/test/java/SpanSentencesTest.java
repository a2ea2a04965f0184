/** The sentences of the promises 14 to 21: spans, and numbers of the whole. */
public final class SpanSentencesTest extends Sentences {
    private static final String ROW = "f3132f0";

    private static void promise14() {
        section("Promise 14: smallest");
        says("`int smallest(int from, int to, int index)`: Returns a symbol of a span by its place if the span was sorted.");
        String sorted = "01233ff";
        for (int index = 0; index < 7; index++) {
            due("smallest(0, 7, " + index + ")", withRow(ROW).smallest(0, 7, index),
                    Character.digit(sorted.charAt(index), 16));
        }
        says("- `from`: the first place of the span");
        due("smallest(2, 5, 0)", withRow(ROW).smallest(2, 5, 0), 1);
        due("smallest(3, 5, 0)", withRow(ROW).smallest(3, 5, 0), 2);
        dueFrom("smallest", (x, from, to) -> x.smallest(from, to, 0));
        says("- `to`: the place behind it");
        due("smallest(0, 6, 0)", withRow(ROW).smallest(0, 6, 0), 1);
        due("smallest(6, 7, 0)", withRow(ROW).smallest(6, 7, 0), 0);
        dueTo("smallest", (x, from, to) -> x.smallest(from, to, 0));
        says("- `index`: 0 for the smallest, and so on");
        due("smallest(1, 6, 0)", withRow(ROW).smallest(1, 6, 0), 1);
        due("smallest(1, 6, 1)", withRow(ROW).smallest(1, 6, 1), 2);
        due("smallest(1, 6, 4)", withRow(ROW).smallest(1, 6, 4), 15);
        dueTaken("smallest(0, 7, ?)", index -> withRow(ROW).smallest(0, 7, index), 0, 6, 7, 60, MOST);
        says("Returns the symbol");
        due("smallest of one 0", withRow("0").smallest(0, 1, 0), 0);
        due("smallest(0, 60, 59) of 60", withRow("f" + "0".repeat(59)).smallest(0, 60, 59), 15);
        due("smallest(0, 60, 58) of 60", withRow("f" + "0".repeat(59)).smallest(0, 60, 58), 0);
        says("INVALID_ARGUMENT if there is no such span or index is negative");
        dueRefused("smallest(0, 7, ?)", index -> withRow(ROW).smallest(0, 7, index), -1, LEAST);
        dueRefused("smallest(7, 7, ?)", index -> withRow(ROW).smallest(7, 7, index), -1, LEAST);
        dueError("smallest(0, 3, 0)", INVALID, () -> withRow("12"), x -> x.smallest(0, 3, 0));
        dueError("smallest(1, 0, 0)", INVALID, () -> withRow("12"), x -> x.smallest(1, 0, 0));
        dueError("smallest(-1, 1, 0)", INVALID, () -> withRow("12"), x -> x.smallest(-1, 1, 0));
        dueError("smallest(0, 1, -1)", INVALID, () -> withRow("12"), x -> x.smallest(0, 1, -1));
        dueError("smallest(3, 3, 9)", INVALID, () -> withRow("12"), x -> x.smallest(3, 3, 9));
        says("NOT_FOUND if the span has not so many symbols.");
        due("smallest(0, 7, 7)", withRow(ROW).smallest(0, 7, 7), MISSING);
        due("smallest(2, 5, 3)", withRow(ROW).smallest(2, 5, 3), MISSING);
        due("smallest(7, 7, 0)", withRow(ROW).smallest(7, 7, 0), MISSING);
        due("smallest(0, 0, 0) of none", withRow("").smallest(0, 0, 0), MISSING);
        due("smallest(0, 7, most)", withRow(ROW).smallest(0, 7, MOST), MISSING);
        due("smallest(0, 60, 60) of 60", withRow("f".repeat(60)).smallest(0, 60, 60), MISSING);
        dueError("smallest(0, 1, 1)", MISSING, () -> withRow("12"), x -> x.smallest(0, 1, 1));
    }

    private static void promise15() {
        section("Promise 15: below");
        says("`int below(int from, int to, int bound)`: Counts the symbols of a span that are below a bound.");
        due("below(0, 7, 3)", withRow(ROW).below(0, 7, 3), 3);
        due("below(1, 6, 3)", withRow(ROW).below(1, 6, 3), 2);
        says("- `from`: the first place of the span");
        due("below(2, 5, 3)", withRow(ROW).below(2, 5, 3), 2);
        due("below(3, 5, 3)", withRow(ROW).below(3, 5, 3), 1);
        dueFrom("below", (x, from, to) -> x.below(from, to, 9));
        says("- `to`: the place behind it");
        due("below(0, 6, 1)", withRow(ROW).below(0, 6, 1), 0);
        due("below(6, 7, 1)", withRow(ROW).below(6, 7, 1), 1);
        dueTo("below", (x, from, to) -> x.below(from, to, 9));
        says("- `bound`: 0 to 16");
        dueRange("below(0, 7, ?)", 0, 16, bound -> withRow(ROW).below(0, 7, bound));
        dueRange("below(7, 7, ?)", 0, 16, bound -> withRow(ROW).below(7, 7, bound));
        says("Returns how many");
        due("below(0, 7, 0)", withRow(ROW).below(0, 7, 0), 0);
        due("below(0, 7, 1)", withRow(ROW).below(0, 7, 1), 1);
        due("below(0, 7, 15)", withRow(ROW).below(0, 7, 15), 5);
        due("below(0, 7, 16)", withRow(ROW).below(0, 7, 16), 7);
        due("below(3, 3, 16)", withRow(ROW).below(3, 3, 16), 0);
        due("below(0, 60, 16) of 60", withRow("f".repeat(60)).below(0, 60, 16), 60);
        due("below(0, 60, 15) of 60", withRow("f".repeat(60)).below(0, 60, 15), 0);
        says("INVALID_ARGUMENT if an argument is out of range.");
        dueError("below(0, 3, 1)", INVALID, () -> withRow("12"), x -> x.below(0, 3, 1));
        dueError("below(1, 0, 1)", INVALID, () -> withRow("12"), x -> x.below(1, 0, 1));
        dueError("below(-1, 1, 1)", INVALID, () -> withRow("12"), x -> x.below(-1, 1, 1));
        dueError("below(0, 1, 17)", INVALID, () -> withRow("12"), x -> x.below(0, 1, 17));
        dueError("below(0, 1, -1)", INVALID, () -> withRow("12"), x -> x.below(0, 1, -1));
    }

    private static void promise16() {
        section("Promise 16: notBelow");
        says("`int notBelow(int from, int to, int bound)`: Finds the least symbol of a span that is not below a bound.");
        due("notBelow(0, 7, 4)", withRow(ROW).notBelow(0, 7, 4), 15);
        due("notBelow(0, 7, 3)", withRow(ROW).notBelow(0, 7, 3), 3);
        due("notBelow(1, 5, 2)", withRow(ROW).notBelow(1, 5, 2), 2);
        says("- `from`: the first place of the span");
        due("notBelow(2, 5, 0)", withRow(ROW).notBelow(2, 5, 0), 1);
        due("notBelow(3, 5, 0)", withRow(ROW).notBelow(3, 5, 0), 2);
        dueFrom("notBelow", (x, from, to) -> x.notBelow(from, to, 9));
        says("- `to`: the place behind it");
        due("notBelow(0, 6, 0)", withRow(ROW).notBelow(0, 6, 0), 1);
        due("notBelow(6, 7, 0)", withRow(ROW).notBelow(6, 7, 0), 0);
        dueTo("notBelow", (x, from, to) -> x.notBelow(from, to, 9));
        says("- `bound`: 0 to 15");
        dueRange("notBelow(0, 7, ?)", 0, 15, bound -> withRow(ROW).notBelow(0, 7, bound));
        dueRange("notBelow(7, 7, ?)", 0, 15, bound -> withRow(ROW).notBelow(7, 7, bound));
        says("Returns the symbol");
        due("notBelow(0, 7, 0)", withRow(ROW).notBelow(0, 7, 0), 0);
        due("notBelow(0, 7, 15)", withRow(ROW).notBelow(0, 7, 15), 15);
        due("notBelow(0, 60, 1) of 60", withRow("0".repeat(59) + "1").notBelow(0, 60, 1), 1);
        says("INVALID_ARGUMENT if an argument is out of range");
        dueError("notBelow(0, 3, 1)", INVALID, () -> withRow("12"), x -> x.notBelow(0, 3, 1));
        dueError("notBelow(1, 0, 1)", INVALID, () -> withRow("12"), x -> x.notBelow(1, 0, 1));
        dueError("notBelow(-1, 1, 1)", INVALID, () -> withRow("12"), x -> x.notBelow(-1, 1, 1));
        dueError("notBelow(0, 1, 16)", INVALID, () -> withRow("12"), x -> x.notBelow(0, 1, 16));
        dueError("notBelow(0, 1, -1)", INVALID, () -> withRow("12"), x -> x.notBelow(0, 1, -1));
        says("NOT_FOUND if there is none.");
        due("notBelow(1, 5, 4)", withRow(ROW).notBelow(1, 5, 4), MISSING);
        due("notBelow(0, 2, 15) of e e", withRow("ee").notBelow(0, 2, 15), MISSING);
        due("notBelow(7, 7, 0)", withRow(ROW).notBelow(7, 7, 0), MISSING);
        due("notBelow(0, 0, 0) of none", withRow("").notBelow(0, 0, 0), MISSING);
        dueError("notBelow(0, 1, 2)", MISSING, () -> withRow("12"), x -> x.notBelow(0, 1, 2));
    }

    private static void dueSpan(String row, int from, int to, int what, int want) {
        due("spanOf(" + from + ", " + to + ", " + what + ") of " + row, withRow(row).spanOf(from, to, what), want);
    }

    private static void promise17() {
        section("Promise 17: spanOf");
        says("`int spanOf(int from, int to, int what)`: Returns something of a span.");
        dueSpan(ROW, 1, 6, 0, 4);
        dueSpan(ROW, 1, 6, 3, 24);
        says("- `from`: the first place of the span");
        dueSpan(ROW, 2, 5, 3, 6);
        dueSpan(ROW, 3, 5, 3, 5);
        for (int what = 0; what <= 5; what++) {
            int asked = what;
            dueFrom("spanOf " + what, (x, from, to) -> x.spanOf(from, to, asked));
        }
        says("- `to`: the place behind it");
        dueSpan(ROW, 0, 6, 0, 4);
        dueSpan(ROW, 6, 7, 0, 1);
        for (int what = 0; what <= 5; what++) {
            int asked = what;
            dueTo("spanOf " + what, (x, from, to) -> x.spanOf(from, to, asked));
        }
        says("- `what`: ");
        dueRange("spanOf(0, 7, ?)", 0, 5, what -> withRow(ROW).spanOf(0, 7, what));
        dueRange("spanOf(7, 7, ?)", 0, 5, what -> withRow(ROW).spanOf(7, 7, what));
        promise17What();
        says("Returns the number");
        String halves = "1".repeat(30) + "0".repeat(30);
        dueSpan(halves, 0, 60, 2, 30);
        dueSpan(halves, 0, 60, 5, 900);
        dueSpan("f".repeat(60), 0, 60, 3, 900);
        says("INVALID_ARGUMENT if an argument is out of range");
        dueError("spanOf(0, 3, 0)", INVALID, () -> withRow("12"), x -> x.spanOf(0, 3, 0));
        dueError("spanOf(1, 0, 1)", INVALID, () -> withRow("12"), x -> x.spanOf(1, 0, 1));
        dueError("spanOf(-1, 1, 4)", INVALID, () -> withRow("12"), x -> x.spanOf(-1, 1, 4));
        dueError("spanOf(0, 1, 6)", INVALID, () -> withRow("12"), x -> x.spanOf(0, 1, 6));
        dueError("spanOf(0, 1, -1)", INVALID, () -> withRow("12"), x -> x.spanOf(0, 1, -1));
        says("NOT_FOUND for 1 and 2 if the span is empty.");
        for (int place = 0; place <= 7; place++) {
            dueSpan(ROW, place, place, 1, MISSING);
            dueSpan(ROW, place, place, 2, MISSING);
        }
        dueSpan("", 0, 0, 1, MISSING);
        dueSpan("", 0, 0, 2, MISSING);
        dueError("spanOf(1, 1, 1)", MISSING, () -> withRow("12"), x -> x.spanOf(1, 1, 1));
    }

    private static void promise17What() {
        says("0: how many unlike symbols it has");
        dueSpan(ROW, 0, 7, 0, 5);
        dueSpan("77777", 0, 5, 0, 1);
        dueSpan("0123456789abcdef", 0, 16, 0, 16);
        dueSpan(ROW, 7, 7, 0, 0);
        says("1: its most frequent symbol, of several the least");
        dueSpan("0112233321", 0, 10, 1, 1);
        dueSpan("f33ff3", 0, 6, 1, 3);
        dueSpan("f0ff00", 0, 6, 1, 0);
        dueSpan("f0ff00", 0, 4, 1, 15);
        dueSpan("f", 0, 1, 1, 15);
        says("2: how often that stands in it");
        dueSpan("0112233321", 0, 10, 2, 3);
        dueSpan("f0ff00", 0, 4, 2, 3);
        dueSpan("0f", 0, 2, 2, 1);
        says("3: its sum");
        dueSpan(ROW, 0, 7, 3, 39);
        dueSpan("000", 0, 3, 3, 0);
        dueSpan(ROW, 7, 7, 3, 0);
        says("4: 1 if it is sorted, otherwise 0");
        dueSpan("0112f", 0, 5, 4, 1);
        dueSpan("0110f", 0, 5, 4, 0);
        dueSpan("0110f", 0, 3, 4, 1);
        dueSpan("10", 0, 2, 4, 0);
        dueSpan("0f0", 1, 3, 4, 0);
        dueSpan("777", 0, 3, 4, 1);
        dueSpan("f0", 1, 2, 4, 1);
        dueSpan("f0", 1, 1, 4, 1);
        says("5: how many pairs of its symbols stand the wrong way round (the greater one first)");
        dueSpan(ROW, 0, 7, 5, 13);
        dueSpan("3210", 0, 4, 5, 6);
        dueSpan("3210", 1, 4, 5, 3);
        dueSpan("2201", 0, 4, 5, 4);
        dueSpan("0112f", 0, 5, 5, 0);
        dueSpan("777", 0, 3, 5, 0);
        dueSpan("f0", 1, 1, 5, 0);
    }

    private static void dueProduct(String row, int from, int to, long want) {
        due("product(" + from + ", " + to + ") of " + row, withRow(row).product(from, to), want);
    }

    private static void promise18() {
        section("Promise 18: product");
        says("`long product(int from, int to)`: Multiplies the symbols of a span, each greater by 1.");
        dueProduct("f3102", 0, 5, 16 * 4 * 2 * 3);
        dueProduct("0", 0, 1, 1);
        dueProduct("f", 0, 1, 16);
        says("- `from`: the first place of the span");
        dueProduct("f3102", 1, 3, 8);
        dueProduct("f3102", 2, 3, 2);
        dueFrom("product", BitLevels::product);
        says("- `to`: the place behind it");
        dueProduct("f3102", 0, 4, 16 * 4 * 2);
        dueProduct("f3102", 4, 5, 3);
        dueTo("product", (x, from, to) -> x.product(from, to));
        says("Returns the product");
        dueProduct("f".repeat(15), 0, 15, 1L << 60);
        dueProduct("1".repeat(60), 0, 60, 1L << 60);
        dueProduct("1".repeat(40), 0, 31, 1L << 31);
        dueProduct("e".repeat(16), 0, 16, 6568408355712890625L);
        dueProduct("0".repeat(60), 0, 60, 1);
        says("1 for an empty span");
        for (int place = 0; place <= 5; place++) {
            dueProduct("f3102", place, place, 1);
        }
        dueProduct("", 0, 0, 1);
        dueProduct("f".repeat(60), 60, 60, 1);
        says("INVALID_ARGUMENT;");
        dueError("product(0, 3)", INVALID, () -> withRow("12"), x -> x.product(0, 3));
        dueError("product(1, 0)", INVALID, () -> withRow("12"), x -> x.product(1, 0));
        dueError("product(-1, 1)", INVALID, () -> withRow("12"), x -> x.product(-1, 1));
        dueError("product(0, 61) of 60", INVALID, () -> withRow("f".repeat(60)), x -> x.product(0, 61));
        promise18Limit();
    }

    private static void promise18Limit() {
        says("LIMIT_REACHED if it is above 9223372036854775807.");
        dueProduct("f".repeat(15) + "3", 0, 16, 1L << 62);
        dueProduct("f".repeat(15) + "7", 0, 16, LIMIT);
        dueProduct("7" + "f".repeat(15), 0, 16, LIMIT);
        // 2^64, 2^68 and 2^240 are 0 in a long, 15^17 and 3^60 some other number above 0.
        dueProduct("f".repeat(16), 0, 16, LIMIT);
        dueProduct("f".repeat(17), 0, 17, LIMIT);
        dueProduct("f".repeat(60), 0, 60, LIMIT);
        dueProduct("e".repeat(17), 0, 17, LIMIT);
        dueProduct("2".repeat(60), 0, 60, LIMIT);
        dueProduct("2".repeat(39), 0, 39, 4052555153018976267L);
        dueProduct("2".repeat(40), 0, 40, LIMIT);
        dueProduct("d".repeat(16) + "3", 0, 17, 8711813351237484544L);
        dueProduct("d".repeat(16) + "4", 0, 17, LIMIT);
        // No product of 1 to 16 lies between this one and the greatest long.
        dueProduct("fffe8888886666666666", 0, 20, 9223306985706024960L);
        dueProduct("fffe88888866666666660000", 0, 24, 9223306985706024960L);
        dueProduct("fffe88888866666666661", 0, 21, LIMIT);
        // What follows the excess does not bring it back.
        dueProduct("f".repeat(16) + "0".repeat(40), 0, 56, LIMIT);
        dueError("product of 60", LIMIT, () -> withRow("f".repeat(60)), x -> x.product(0, 60));
    }

    private static void dueCommon(String row, int from, int to, int otherFrom, int otherTo, int what, int want) {
        due("common(" + from + ", " + to + ", " + otherFrom + ", " + otherTo + ", " + what + ") of " + row,
                withRow(row).common(from, to, otherFrom, otherTo, what), want);
    }

    private static void promise19() {
        section("Promise 19: common");
        says("`int common(int from, int to, int otherFrom, int otherTo, int what)`: Compares two spans.");
        dueCommon("3312" + "2335f", 0, 4, 4, 9, 1, 3);
        dueCommon("3312" + "2335f", 4, 9, 0, 4, 1, 3);
        says("- `from`: the first place of the one");
        dueCommon("45" + "45", 1, 2, 2, 4, 2, 5);
        dueFrom("common 0", (x, from, to) -> x.common(from, to, 0, 4, 0));
        dueFrom("common 3", (x, from, to) -> x.common(from, to, 2, 2, 3));
        says("- `to`: the place behind it");
        dueCommon("45" + "45", 0, 1, 2, 4, 1, 1);
        dueTo("common 1", (x, from, to) -> x.common(from, to, 0, 0, 1));
        says("- `otherFrom`: the first place of the other one");
        dueCommon("45" + "45", 0, 2, 3, 4, 2, 5);
        dueFrom("common 0, other", (x, from, to) -> x.common(0, 4, from, to, 0));
        dueFrom("common 2, other", (x, from, to) -> x.common(2, 2, from, to, 2));
        says("- `otherTo`: the place behind it");
        dueCommon("45" + "45", 0, 2, 2, 3, 1, 1);
        dueTo("common 3, other", (x, from, to) -> x.common(0, 0, from, to, 3));
        says("- `what`: ");
        dueRange("common(0, 2, 2, 4, ?)", 0, 3, what -> withRow("4545").common(0, 2, 2, 4, what));
        dueRange("common(0, 0, 4, 4, ?)", 0, 3, what -> withRow("4545").common(0, 0, 4, 4, what));
        promise19What();
        says("Returns the number");
        dueCommon("f".repeat(60), 0, 60, 0, 60, 1, 60);
        dueCommon("0".repeat(60), 0, 30, 30, 60, 2, 0);
        says("INVALID_ARGUMENT if an argument is out of range");
        dueError("common(0, 3, 0, 0, 0)", INVALID, () -> withRow("12"), x -> x.common(0, 3, 0, 0, 0));
        dueError("common(0, 0, 0, 3, 0)", INVALID, () -> withRow("12"), x -> x.common(0, 0, 0, 3, 0));
        dueError("common(1, 0, 0, 0, 1)", INVALID, () -> withRow("12"), x -> x.common(1, 0, 0, 0, 1));
        dueError("common(0, 0, 1, 0, 1)", INVALID, () -> withRow("12"), x -> x.common(0, 0, 1, 0, 1));
        dueError("common(-1, 0, 0, 0, 2)", INVALID, () -> withRow("12"), x -> x.common(-1, 0, 0, 0, 2));
        dueError("common(0, 0, -1, 0, 2)", INVALID, () -> withRow("12"), x -> x.common(0, 0, -1, 0, 2));
        dueError("common(0, 1, 0, 1, 4)", INVALID, () -> withRow("12"), x -> x.common(0, 1, 0, 1, 4));
        dueError("common(0, 1, 0, 1, -1)", INVALID, () -> withRow("12"), x -> x.common(0, 1, 0, 1, -1));
        says("NOT_FOUND for 2 if there is none.");
        dueCommon("12" + "34", 0, 2, 2, 4, 2, MISSING);
        dueCommon("12", 0, 2, 2, 2, 2, MISSING);
        dueCommon("12", 1, 1, 0, 2, 2, MISSING);
        dueCommon("", 0, 0, 0, 0, 2, MISSING);
        dueError("common(0, 1, 1, 2, 2)", MISSING, () -> withRow("12"), x -> x.common(0, 1, 1, 2, 2));
    }

    private static void promise19What() {
        says("0: how many unlike symbols both have");
        dueCommon("3312" + "2335f", 0, 4, 4, 9, 0, 2);
        dueCommon("12" + "34", 0, 2, 2, 4, 0, 0);
        dueCommon("12", 0, 2, 0, 2, 0, 2);
        dueCommon("0", 0, 1, 1, 1, 0, 0);
        dueCommon("", 0, 0, 0, 0, 0, 0);
        says("1: how many symbols both have, each as often as it is in both");
        dueCommon("3312" + "2331", 0, 4, 4, 8, 1, 4);
        dueCommon("3312" + "2231", 0, 4, 4, 8, 1, 3);
        dueCommon("333" + "33", 0, 3, 3, 5, 1, 2);
        dueCommon("ff" + "fff", 0, 2, 2, 5, 1, 2);
        dueCommon("12" + "34", 0, 2, 2, 4, 1, 0);
        dueCommon("12", 0, 2, 2, 2, 1, 0);
        says("2: the least symbol that both have");
        dueCommon("1359" + "95", 0, 4, 4, 6, 2, 5);
        dueCommon("1359" + "95", 4, 6, 0, 4, 2, 5);
        dueCommon("00f0", 0, 2, 1, 4, 2, 0);
        dueCommon("0ff", 0, 2, 1, 3, 2, 15);
        says("3: 1 if both have the same symbols as often, otherwise 0");
        dueCommon("3312" + "2331", 0, 4, 4, 8, 3, 1);
        dueCommon("3312" + "2231", 0, 4, 4, 8, 3, 0);
        dueCommon("33" + "333", 0, 2, 2, 5, 3, 0);
        dueCommon("333" + "33", 0, 3, 3, 5, 3, 0);
        dueCommon("00" + "0", 0, 2, 2, 3, 3, 0);
        dueCommon("ff" + "f", 0, 2, 2, 3, 3, 0);
        dueCommon("f" + "0", 0, 1, 1, 2, 3, 0);
        dueCommon("12", 0, 2, 0, 2, 3, 1);
        dueCommon("12", 0, 0, 2, 2, 3, 1);
        dueCommon("12", 0, 2, 2, 2, 3, 0);
        dueCommon("", 0, 0, 0, 0, 3, 1);
    }

    private static void dueHeaviest(String row, int many, int first, int sum) {
        due("heaviest(" + many + ", 0) of " + row, withRow(row).heaviest(many, 0), first);
        due("heaviest(" + many + ", 1) of " + row, withRow(row).heaviest(many, 1), sum);
    }

    private static void promise20() {
        section("Promise 20: heaviest");
        says("`int heaviest(int many, int what)`: Finds the span with so many symbols whose sum is greatest");
        dueHeaviest("1720935", 3, 4, 17);
        dueHeaviest("1720935", 4, 1, 18);
        dueHeaviest("1720935", 7, 0, 27);
        dueHeaviest("1720939", 1, 4, 9);
        dueHeaviest("9100", 2, 0, 10);
        dueHeaviest("0".repeat(59) + "1", 59, 1, 1);
        dueHeaviest("0".repeat(59) + "1", 1, 59, 1);
        says(", of several the one that begins first.");
        dueHeaviest("1551551", 2, 1, 10);
        dueHeaviest("000", 2, 0, 0);
        dueHeaviest("2112", 2, 0, 3);
        dueHeaviest("f".repeat(60), 59, 0, 885);
        says("- `many`: 1 to 60");
        dueRange("heaviest(?, 0) of 60", 1, 60, many -> withRow("5".repeat(60)).heaviest(many, 0));
        dueRange("heaviest(?, 1) of three", 1, 60, many -> withRow("123").heaviest(many, 1));
        dueRange("heaviest(?, 0) of none", 1, 60, many -> withRow("").heaviest(many, 0));
        says("- `what`: ");
        dueRange("heaviest(2, ?)", 0, 1, what -> withRow("123").heaviest(2, what));
        dueRange("heaviest(4, ?) of three", 0, 1, what -> withRow("123").heaviest(4, what));
        says("0: its first place");
        due("heaviest(2, 0)", withRow("0990").heaviest(2, 0), 1);
        says("1: the sum");
        due("heaviest(2, 1)", withRow("0990").heaviest(2, 1), 18);
        says("Returns the number");
        dueHeaviest("f".repeat(60), 60, 0, 900);
        dueHeaviest("0", 1, 0, 0);
        says("INVALID_ARGUMENT if an argument is out of range");
        dueError("heaviest(0, 0)", INVALID, () -> withRow("12"), x -> x.heaviest(0, 0));
        dueError("heaviest(61, 0)", INVALID, () -> withRow("12"), x -> x.heaviest(61, 0));
        dueError("heaviest(1, 2)", INVALID, () -> withRow("12"), x -> x.heaviest(1, 2));
        dueError("heaviest(1, -1)", INVALID, () -> withRow("12"), x -> x.heaviest(1, -1));
        says("NOT_FOUND if the row has fewer symbols.");
        dueHeaviest("123", 4, MISSING, MISSING);
        dueHeaviest("123", 60, MISSING, MISSING);
        dueHeaviest("123", 3, 0, 6);
        dueHeaviest("", 1, MISSING, MISSING);
        dueHeaviest("f".repeat(59), 60, MISSING, MISSING);
        dueError("heaviest(3, 0)", MISSING, () -> withRow("12"), x -> x.heaviest(3, 0));
    }

    private static void dueCount(String row, int what, int want) {
        due("count(" + what + ") of " + row, withRow(row).count(what), want);
    }

    private static void promise21() {
        section("Promise 21: count");
        says("`int count(int what)`: Returns a number.");
        due("count(5)", withText("12", "abc").count(5), 3);
        says("- `what`: ");
        dueRange("count", 0, 5, what -> withText("12", "abc").count(what));
        dueRange("count of a new object", 0, 5, what -> new BitLevels().count(what));
        says("0: symbols");
        dueCount("f3132f000", 0, 9);
        dueCount("", 0, 0);
        dueCount("0".repeat(60), 0, 60);
        says("1: unlike symbols");
        dueCount("f3132f000", 1, 5);
        dueCount("0123456789abcdef", 1, 16);
        dueCount("0".repeat(60), 1, 1);
        dueCount("", 1, 0);
        says("2: bits that are 1, of all four levels");
        dueCount("f3132f000", 2, 14);
        dueCount("1248", 2, 4);
        dueCount("f".repeat(60), 2, 240);
        dueCount("0".repeat(60), 2, 0);
        dueCount("", 2, 0);
        says("3: blocks of a level");
        dueCount("", 3, 0);
        dueCount("1", 3, 1);
        dueCount("1".repeat(8), 3, 1);
        dueCount("1".repeat(9), 3, 2);
        dueCount("1".repeat(16), 3, 2);
        dueCount("1".repeat(17), 3, 3);
        dueCount("1".repeat(56), 3, 7);
        dueCount("1".repeat(57), 3, 8);
        dueCount("1".repeat(60), 3, 8);
        says("4: states in the history");
        dueCount("", 4, 0);
        dueCount("1", 4, 1);
        dueCount("1111", 4, 4);
        dueCount("11111", 4, 4);
        says("5: the length of the text");
        due("count(5) of no text", withText("1", "").count(5), 0);
        due("count(5) of one character", withText("1", " ").count(5), 1);
        due("count(5) of 60 characters", withText("1", "+".repeat(60)).count(5), 60);
        says("Returns the number");
        BitLevels x = withText("f0", "+0,1;");
        x.play();
        int[] wants = {3, 3, 5, 1, 3, 5};
        for (int what = 0; what <= 5; what++) {
            due("count(" + what + ") after play", x.count(what), wants[what]);
        }
        says("INVALID_ARGUMENT if what is out of range.");
        dueError("count(6)", INVALID, () -> withRow("12"), one -> one.count(6));
        dueError("count(-1)", INVALID, () -> withRow("12"), one -> one.count(-1));
    }

    public static void main(String[] args) throws Exception {
        readDocument();
        promise14();
        promise15();
        promise16();
        promise17();
        promise18();
        promise19();
        promise20();
        promise21();
        end();
    }
}
