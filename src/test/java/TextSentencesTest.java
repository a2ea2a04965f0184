/** The sentences of "Texts" and of the promises 23 to 26. */
public final class TextSentencesTest extends Sentences {
    private static final String FULL = "7".repeat(59) + "8";

    private static void dueFault(String row, String text, int position, int reason, int cause) {
        BitLevels x = withText(row, text);
        String of = " of " + text + " on " + row;
        due("count(5)" + of, x.count(5), text.length());
        due("fault(0)" + of, x.fault(0), position);
        due("fault(1)" + of, x.fault(1), reason);
        due("fault(2)" + of, x.fault(2), cause);
        due("play()" + of, x.play(), IMPOSSIBLE);
        dueRow("play()" + of, x, row);
    }

    /** The edit is the first one, and breaks off at this character. */
    private static void dueBreak(String text, int cause) {
        dueFault("12", text, 0, 1, cause);
    }

    private static void duePlay(String row, String text, String want) {
        BitLevels x = withText(row, text);
        String of = " of " + text + " on " + row;
        due("fault(0)" + of, x.fault(0), MISSING);
        due("fault(1)" + of, x.fault(1), MISSING);
        due("fault(2)" + of, x.fault(2), MISSING);
        due("play()" + of, x.play(), want.length());
        dueRow("play()" + of, x, want);
    }

    private static void texts() {
        section("Texts");
        says("There is a text of at most 60 characters");
        BitLevels x = new BitLevels();
        for (int length = 1; length <= 60; length++) {
            due("type to " + length, x.type(';'), length);
        }
        due("type of the 61st", x.type(';'), LIMIT);
        due("count(5)", x.count(5), 60);
        duePlay("", "+0," + "5".repeat(56) + ";", "5".repeat(56));
        says(", initially empty:");
        due("count(5)", new BitLevels().count(5), 0);
        due("clearText()", new BitLevels().clearText(), 0);
        due("type('+')", new BitLevels().type('+'), 1);
        due("play()", new BitLevels().play(), 0);
        says("edits, each followed by \";\":");
        duePlay("12", "+0,3;", "312");
        duePlay("12", "+0,3;+0,4;x0,1;", "3412");
        dueBreak("+0,3", 4);
        dueBreak("+0,3+0,4;", 4);
        dueBreak(";", 0);
        dueFault("12", "+0,3;;", 5, 1, 0);
        dueFault("12", "+0,3;+0,4", 5, 1, 4);
        forms();
        digits();
    }

    private static void forms() {
        says("\"+\" a place, \",\", symbols (they are put in at this place, one behind another");
        duePlay("12", "+0,345;", "34512");
        duePlay("12", "+1,345;", "13452");
        duePlay("12", "+2,345;", "12345");
        duePlay("", "+0,0f;", "0f");
        dueBreak("+0;345;", 2);
        says("; at least one)");
        duePlay("12", "+0,3;", "312");
        dueBreak("+0,;", 3);
        dueBreak("+00,;", 4);
        dueBreak("+0,", 3);
        says(", \"-\" a place, \",\", how many (the span of so many from this place on is taken out");
        duePlay("12345", "-1,3;", "15");
        duePlay("12345", "-3,2;", "123");
        duePlay("12345", "-0,1;", "2345");
        duePlay("12345", "-0,5;", "");
        duePlay(FULL, "-0,60;", "");
        dueBreak("-0;1;", 2);
        dueBreak("-0,;", 3);
        says("; it may be empty, also behind the last symbol)");
        duePlay("12345", "-0,0;", "12345");
        duePlay("12345", "-3,0;", "12345");
        duePlay("12345", "-5,0;", "12345");
        duePlay("", "-0,0;", "");
        duePlay(FULL, "-60,0;", FULL);
        dueFault("12345", "-6,0;", 0, 2, MISSING);
        dueFault("", "-1,0;", 0, 2, MISSING);
        says(", \"x\" a place, \",\", a place (both symbols change places)");
        duePlay("12345", "x0,4;", "52341");
        duePlay("12345", "x3,1;", "14325");
        duePlay("12345", "x2,2;", "12345");
        duePlay("12345", "x4,4;", "12345");
        dueBreak("x0;1;", 2);
        dueBreak("x0,;", 3);
        says(", or \"r\" a place, \",\", a place (the span between both is turned around)");
        duePlay("12345", "r0,5;", "54321");
        duePlay("12345", "r1,4;", "14325");
        duePlay("12345", "r2,3;", "12345");
        duePlay("12345", "r2,2;", "12345");
        duePlay("12345", "r5,5;", "12345");
        duePlay("", "r0,0;", "");
        duePlay(FULL, "r0,60;", "8" + "7".repeat(59));
        dueBreak("r0;1;", 2);
        dueBreak("r0,;", 3);
    }

    private static void digits() {
        says("; places and numbers of 1 or 2 digits");
        String twelve = "0123456789ab";
        duePlay(twelve, "+9,f;", "012345678f9ab");
        duePlay(twelve, "+11,f;", "0123456789afb");
        duePlay(twelve, "-9,2;", "012345678b");
        duePlay(twelve, "-1,10;", "0b");
        duePlay(twelve, "x9,11;", "012345678ba9");
        duePlay(twelve, "r10,12;", "0123456789ba");
        for (String kind : new String[] {"+", "-", "x", "r"}) {
            dueBreak(kind + ",1;", 1);
            dueBreak(kind + "000,1;", 3);
            dueBreak(kind + "100,1;", 3);
            dueBreak(kind + "/,1;", 1);
            dueBreak(kind + ":,1;", 1);
            dueBreak(kind + "0/,1;", 2);
            dueBreak(kind + "0:,1;", 2);
            dueBreak(kind + "-1,1;", 1);
            dueBreak(kind + " 1,1;", 1);
            dueBreak(kind + "a,1;", 1);
        }
        for (String kind : new String[] {"-", "x", "r"}) {
            dueBreak(kind + "0,001;", 5);
            dueBreak(kind + "0,/;", 3);
            dueBreak(kind + "0,:;", 3);
            dueBreak(kind + "0,1/;", 4);
            dueBreak(kind + "0,1:", 4);
            dueBreak(kind + "0,+1;", 3);
            dueBreak(kind + "0,a;", 3);
        }
        says(", 0 ahead allowed");
        duePlay("12345", "+00,3;", "312345");
        duePlay("12345", "+05,3;", "123453");
        duePlay("12345", "-00,01;", "2345");
        duePlay("12345", "-05,00;", "12345");
        duePlay("12345", "x00,04;", "52341");
        duePlay("12345", "r01,04;", "14325");
        says(", symbols as 0 to 9 and a to f.");
        duePlay("", "+0,0123456789abcdef;", "0123456789abcdef");
        duePlay("", "+0,fedcba9876543210;", "fedcba9876543210");
        for (char sign : "/:`g@AFG ,+-xr~".toCharArray()) {
            dueBreak("+0," + sign + ";", 3);
            dueBreak("+0,f" + sign + ";", 4);
        }
    }

    private static void faults() {
        says("The fault of the text is the position, from 0, of the first character of the first edit that is not"
                + " possible");
        dueFault("12", "x0,2;", 0, 2, MISSING);
        dueFault("12", "x0,1;x0,2;", 5, 2, MISSING);
        dueFault("12", "+00,345;x0,1;x9,0;", 13, 2, MISSING);
        dueFault("12", "x0,1;x0,2;+", 5, 2, MISSING);
        dueFault("12", "x0,2;q", 0, 2, MISSING);
        dueFault("12", "q;x0,2;", 0, 1, 0);
        dueFault("12", "x0,1;-0,1;-0,1;-0,1;x0,0;", 15, 2, MISSING);
        dueFault("12", "x0,1;".repeat(11) + "x0,2;", 55, 2, MISSING);
        dueFault("12", "x0,1;".repeat(11) + "-0,1 ", 55, 1, 4);
        dueFault("12", "x0,1;".repeat(11) + "-0,1", 55, 1, 4);
        due("fault(0) of no text", withText("12", "").fault(0), MISSING);
        says("; its reason is 1 if it is not of this form");
        for (char sign : "*,./0;:wyqsXR aPp{~ ".toCharArray()) {
            dueBreak(sign + "0,1;", 0);
        }
        dueBreak("+0 1;", 2);
        dueBreak("-0.1;", 2);
        dueBreak("x0-1;", 2);
        dueBreak("r0+1;", 2);
        // The form is told ahead of the places and of the number of symbols.
        dueBreak("x9,9", 4);
        dueBreak("+9,12345", 8);
        dueFault(FULL, "+0,1", 0, 1, 4);
        says(", its \";\" included");
        dueBreak("+0,12", 5);
        dueBreak("-0,1", 4);
        dueBreak("x0,1", 4);
        dueBreak("r0,2", 4);
        dueBreak("-0,1:", 4);
        dueBreak("x0,1<", 4);
        dueBreak("r0,2 ;", 4);
        dueBreak("+0,12:", 5);
        placesAndSizes();
    }

    private static void placesAndSizes() {
        says(", 2 if there are no such places");
        dueFault("12", "+3,1;", 0, 2, MISSING);
        dueFault("12", "+99,1;", 0, 2, MISSING);
        dueFault("", "+1,1;", 0, 2, MISSING);
        dueFault("12", "x0,2;", 0, 2, MISSING);
        dueFault("12", "x2,0;", 0, 2, MISSING);
        dueFault("12", "x2,2;", 0, 2, MISSING);
        dueFault("", "x0,0;", 0, 2, MISSING);
        dueFault(FULL, "x0,60;", 0, 2, MISSING);
        dueFault("12", "r0,3;", 0, 2, MISSING);
        dueFault("12", "r2,1;", 0, 2, MISSING);
        dueFault("12", "r1,0;", 0, 2, MISSING);
        dueFault("12", "r3,3;", 0, 2, MISSING);
        dueFault("12", "-3,0;", 0, 2, MISSING);
        dueFault(FULL, "+61,1;", 0, 2, MISSING);
        dueFault(FULL, "r0,61;", 0, 2, MISSING);
        says(" or not so many symbols");
        dueFault("12", "-0,3;", 0, 2, MISSING);
        dueFault("12", "-1,2;", 0, 2, MISSING);
        dueFault("12", "-2,1;", 0, 2, MISSING);
        dueFault("12", "-0,99;", 0, 2, MISSING);
        dueFault("12", "-99,99;", 0, 2, MISSING);
        dueFault("", "-0,1;", 0, 2, MISSING);
        dueFault(FULL, "-0,61;", 0, 2, MISSING);
        dueFault(FULL, "-1,60;", 0, 2, MISSING);
        says(", and 3 if the row would have more than 60 symbols");
        dueFault(FULL, "+0,1;", 0, 3, MISSING);
        dueFault(FULL, "+60,1;", 0, 3, MISSING);
        dueFault("1".repeat(59), "+59,12;", 0, 3, MISSING);
        duePlay("1".repeat(59), "+59,1;", "1".repeat(60));
        dueFault("12345", "+0," + "f".repeat(56) + ";", 0, 3, MISSING);
        duePlay("1234", "+4," + "f".repeat(56) + ";", "1234" + "f".repeat(56));
        says(", when those ahead of it are done.");
        duePlay("12", "+2,34;x0,3;", "4231");
        dueFault("12", "-0,1;x0,1;", 5, 2, MISSING);
        duePlay("12", "+0,3;+3,4;", "3124");
        dueFault("12", "-0,1;+2,4;", 5, 2, MISSING);
        duePlay("12", "+0,345;-0,5;", "");
        dueFault("12", "-0,1;-0,2;", 5, 2, MISSING);
        dueFault("12", "-0,1;r0,2;", 5, 2, MISSING);
        duePlay(FULL, "-0,1;+59,9;", "7".repeat(58) + "89");
        dueFault(FULL, "-0,1;+0,11;", 5, 3, MISSING);
        dueFault(FULL, "+0,1;-0,1;", 0, 3, MISSING);
        dueFault("1".repeat(58), "+58,1;+0,12;", 6, 3, MISSING);
        duePlay("1".repeat(58), "+58,2;+59,3;", "1".repeat(58) + "23");
    }

    /** Every character of this edit is needed up to here: the edit may end nowhere ahead of its end. */
    private static void dueEnds(String edit) {
        for (int length = 1; length < edit.length(); length++) {
            dueBreak(edit.substring(0, length), length);
            dueFault("12", "x0,1;" + edit.substring(0, length), 5, 1, length);
        }
    }

    private static void causes() {
        says("The cause of a fault with the reason 1 is at which character of the edit, from 0, it breaks off");
        for (String edit : new String[] {"+00,f;", "-00,00;", "x00,01;", "r00,02;"}) {
            for (int at = 0; at < edit.length(); at++) {
                String broken = edit.substring(0, at) + "~" + edit.substring(at + 1);
                dueBreak(broken, at);
                dueFault("12", "r0,2;" + broken, 5, 1, at);
            }
        }
        dueBreak("+0,1,2;", 4);
        dueBreak("-1,1,", 4);
        dueBreak("x0,x1;", 3);
        dueBreak("r,", 1);
        dueBreak("++", 1);
        dueBreak("+0,12345g", 8);
        dueBreak("-00,000", 6);
        dueFault("12", "x0,1;x1,0; ", 10, 1, 0);
        due("fault(2) of the reason 2", withText("12", "x0,2;").fault(2), MISSING);
        due("fault(2) of the reason 3", withText(FULL, "+0,1;").fault(2), MISSING);
        says("(of one that the text ends too early it is its length).");
        dueEnds("+0,1;");
        dueEnds("+00,1f;");
        dueEnds("-0,1;");
        dueEnds("-00,01;");
        dueEnds("x0,1;");
        dueEnds("x00,01;");
        dueEnds("r0,1;");
        dueEnds("r00,01;");
        dueBreak("+0," + "a".repeat(57), 60);
    }

    private static void promise23() {
        section("Promise 23: type");
        says("`int type(int character)`: Appends a character to the text.");
        BitLevels x = withRow("12");
        for (char sign : "+1,3f;".toCharArray()) {
            x.type(sign);
        }
        due("play()", x.play(), 4);
        dueRow("play()", x, "13f2");
        x.type('x');
        due("fault(0)", x.fault(0), 6);
        due("fault(2)", x.fault(2), 1);
        says("- `character`: 32 to 126");
        dueRange("type", 32, 126, character -> new BitLevels().type(character));
        dueRefused("type", character -> new BitLevels().type(character), 0, 10, 128, 255, 65536 + 43, -65536 + 43);
        for (int character = 32; character <= 126; character++) {
            due("type(" + character + ")", new BitLevels().type(character), 1);
        }
        says("Returns the length of the text");
        BitLevels full = new BitLevels();
        for (int length = 1; length <= 60; length++) {
            due("type to " + length, full.type('+'), length);
        }
        full.clearText();
        due("type after clearText", full.type('+'), 1);
        says("INVALID_ARGUMENT if character is out of range");
        dueError("type(31)", INVALID, () -> withText("12", "+0,1;"), one -> one.type(31));
        dueError("type(127)", INVALID, () -> withText("12", "+0,1;"), one -> one.type(127));
        dueError("type(127) to 60", INVALID, () -> withText("12", "x0,1;".repeat(12)), one -> one.type(127));
        says("LIMIT_REACHED if it has 60 characters.");
        dueError("type to 60", LIMIT, () -> withText("12", "x0,1;".repeat(12)), one -> one.type(';'));
        dueError("type(32) to 60", LIMIT, () -> withText("12", "x0,1;".repeat(12)), one -> one.type(32));
        due("type to 59", withText("12", "+".repeat(59)).type('+'), 60);
    }

    private static void promise24() {
        section("Promise 24: clearText");
        says("`int clearText()`: Empties the text.");
        BitLevels x = withText("12", "+0,1;");
        x.clearText();
        due("count(5)", x.count(5), 0);
        due("play()", x.play(), 2);
        dueRow("play()", x, "12");
        due("type('-')", x.type('-'), 1);
        due("fault(2)", x.fault(2), 1);
        BitLevels faulty = withText("12", "q");
        faulty.clearText();
        due("fault(0)", faulty.fault(0), MISSING);
        says("Returns the length it had.");
        due("clearText() of none", new BitLevels().clearText(), 0);
        due("clearText() of one", withText("12", "+").clearText(), 1);
        due("clearText() of 60", withText("12", "+".repeat(60)).clearText(), 60);
        BitLevels twice = withText("12", "+0");
        twice.clearText();
        due("clearText() again", twice.clearText(), 0);
        BitLevels tried = withText("12", "+".repeat(60));
        tried.type('+');
        due("clearText() after a 61st", tried.clearText(), 60);
    }

    private static void promise25() {
        section("Promise 25: fault");
        says("`int fault(int what)`: Tells about the fault of the text.");
        dueFault("12", "+0,1;+4,1;", 5, 2, MISSING);
        dueFault("123", "+0,1;+4,1;+5,;", 10, 1, 3);
        BitLevels x = withText("12", "x0,1;");
        due("fault(0)", x.fault(0), MISSING);
        x.take(0);
        due("fault(0) on another row", x.fault(0), 0);
        x.undo();
        due("fault(0) after undo", x.fault(0), MISSING);
        says("- `what`: ");
        dueRange("fault", 0, 2, what -> withText("12", "+").fault(what));
        dueRange("fault of no text", 0, 2, what -> withText("12", "").fault(what));
        says("0: its position");
        due("fault(0)", withText("12", "x0,1;x0,1;x0,q").fault(0), 10);
        due("fault(0) of the first edit", withText("12", "q").fault(0), 0);
        says("1: its reason");
        due("fault(1) of the form", withText("12", "q").fault(1), 1);
        due("fault(1) of the places", withText("12", "x0,2;").fault(1), 2);
        due("fault(1) of too many", withText(FULL, "+0,1;").fault(1), 3);
        says("2: its cause");
        due("fault(2)", withText("12", "x0,1;x0,1;x0,q").fault(2), 3);
        due("fault(2) of an end", withText("12", "x0,1;x0").fault(2), 2);
        says("Returns that");
        dueFault("12", "x0,1;".repeat(11) + "x0,12", 55, 1, 5);
        says("INVALID_ARGUMENT if what is out of range");
        dueError("fault(3)", INVALID, () -> withText("12", "q"), one -> one.fault(3));
        dueError("fault(-1)", INVALID, () -> withText("12", "q"), one -> one.fault(-1));
        dueError("fault(3) without a fault", INVALID, () -> withRow("12"), one -> one.fault(3));
        noFault();
    }

    private static void noFault() {
        says("NOT_FOUND if the text has no fault");
        for (int what = 0; what <= 2; what++) {
            int asked = what;
            String call = "fault(" + what + ")";
            dueError(call, MISSING, () -> withText("12", "+0,1;x0,2;"), x -> x.fault(asked));
            due(call + " of 60 characters", withText("12", "x0,1;".repeat(12)).fault(what), MISSING);
            due(call + " on 60", withText(FULL, "-0,1;+0,1;").fault(what), MISSING);
        }
        says("(also if it is empty)");
        for (int what = 0; what <= 2; what++) {
            due("fault(" + what + ") of no text", new BitLevels().fault(what), MISSING);
            BitLevels x = withText("12", "q");
            x.clearText();
            due("fault(" + what + ") after clearText", x.fault(what), MISSING);
        }
        says("for 2 if the reason is not 1.");
        due("fault(2) of the places", withText("12", "x0,2;").fault(2), MISSING);
        due("fault(2) of too many", withText(FULL, "+0,1;").fault(2), MISSING);
        due("fault(2) of the form", withText("12", "q").fault(2), 0);
        BitLevels x = withText("12", "x0");
        due("fault(2) of the form", x.fault(2), 2);
        write(x, "x0,2;");
        due("fault(2) of the places behind the form", x.fault(2), MISSING);
    }

    private static void promise26() {
        section("Promise 26: play");
        says("`int play()`: Does all edits of the text");
        duePlay("12", "+2,34;-0,1;x0,2;r0,2;", "342");
        duePlay("", "+0,1;".repeat(12), "1".repeat(12));
        duePlay("12345", "r0,5;r5,5;r2,3;", "54321");
        duePlay(FULL, "-0,30;r0,30;+30,0;", "8" + "7".repeat(29) + "0");
        says(", which stays.");
        BitLevels x = withText("1", "+0,2;");
        due("play()", x.play(), 2);
        due("count(5)", x.count(5), 5);
        due("play() again", x.play(), 3);
        dueRow("play() twice", x, "221");
        due("type after play()", x.type('q'), 6);
        says("They are one change");
        BitLevels one = withText("1", "+0,2;+0,3;x0,1;r0,2;-0,1;");
        one.play();
        due("count(4)", one.count(4), 2);
        due("undo()", one.undo(), 1);
        dueRow("undo()", one, "1");
        says(", also if there are none.");
        BitLevels none = withText("12", "");
        due("play() of none", none.play(), 2);
        due("count(4)", none.count(4), 3);
        due("undo()", none.undo(), 2);
        dueRow("undo()", none, "12");
        BitLevels fresh = new BitLevels();
        due("play() of a new object", fresh.play(), 0);
        due("count(4) of a new object", fresh.count(4), 1);
        says("Returns how many symbols there are then");
        due("play()", withText("12", "+0,345;").play(), 5);
        due("play() that takes all out", withText("12", "-0,2;").play(), 0);
        due("play() to 60", withText(FULL.substring(1), "+0,7;").play(), 60);
        says("NOT_POSSIBLE if it has a fault.");
        dueError("play() of the form", IMPOSSIBLE, () -> withText("12", "+0,3;q"), BitLevels::play);
        dueError("play() of the places", IMPOSSIBLE, () -> withText("12", "+0,3;x0,3;"), BitLevels::play);
        dueError("play() of too many", IMPOSSIBLE, () -> withText(FULL, "-0,1;+0,12;"), BitLevels::play);
        dueError("play() of an end", IMPOSSIBLE, () -> withText("12", "-0,1"), BitLevels::play);
    }

    public static void main(String[] args) throws Exception {
        readDocument();
        texts();
        faults();
        causes();
        promise23();
        promise24();
        promise25();
        promise26();
        end();
    }
}
