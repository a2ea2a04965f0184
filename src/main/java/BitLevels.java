/**
 * A row of at most 60 symbols, each 0 to 15, that is sorted by its leading bits, level by level.
 *
 * The row alone is kept; the levels and the tallies are made anew for each call that asks for
 * them, in rows that the constructor has made, so that no call makes an object.
 */
public final class BitLevels {
    /** An argument is out of its range, or there is no such place or span. */
    public static final int INVALID_ARGUMENT = -1000001;
    /** The call is not possible in the present state. */
    public static final int NOT_POSSIBLE = -1000002;
    /** A fixed limit has been reached. */
    public static final int LIMIT_REACHED = -1000003;
    /** There is no such value. */
    public static final int NOT_FOUND = -1000004;

    private static final int MOST_SYMBOLS = 60;
    private static final int MOST_CHARACTERS = 60;
    private static final int MOST_STATES = 4;
    private static final int SYMBOL_KINDS = 16;
    private static final int LAST_LEVEL = 4;
    private static final int BLOCK_SIZE = 8;
    private static final long GREATEST_PRODUCT = 9223372036854775807L;
    /** What stands where nothing stands: no symbol, digit or character has this number. */
    private static final int NONE = -1;

    private final Row row;
    private final History history;
    private final Levels levels;
    private final Tally tally;
    private final Tally otherTally;
    private final Player player;
    private final Text text;

    public BitLevels() {
        row = new Row();
        history = new History();
        levels = new Levels();
        tally = new Tally();
        otherTally = new Tally();
        player = new Player();
        text = player.text();
    }

    // ---- edits

    public int put(int place, int symbol) {
        if (!isAtMost(place, row.size()) || !isSymbol(symbol)) {
            return INVALID_ARGUMENT;
        }
        if (row.size() >= MOST_SYMBOLS) {
            return LIMIT_REACHED;
        }
        history.remember(row);
        row.insert(place, symbol);
        return row.size();
    }

    public int take(int place) {
        if (!row.hasPlace(place)) {
            return INVALID_ARGUMENT;
        }
        int taken = row.at(place);
        history.remember(row);
        row.remove(place);
        return taken;
    }

    public int change(int place, int symbol) {
        if (!row.hasPlace(place) || !isSymbol(symbol)) {
            return INVALID_ARGUMENT;
        }
        int replaced = row.at(place);
        history.remember(row);
        row.replace(place, symbol);
        return replaced;
    }

    public int swap(int one, int other) {
        if (!row.hasPlace(one) || !row.hasPlace(other)) {
            return INVALID_ARGUMENT;
        }
        int differs = row.at(one) != row.at(other) ? 1 : 0;
        history.remember(row);
        row.exchange(one, other);
        return differs;
    }

    public int turn(int from, int to) {
        if (!row.hasSpan(from, to)) {
            return INVALID_ARGUMENT;
        }
        history.remember(row);
        return row.reverse(from, to);
    }

    public int sort(int from, int to) {
        if (!row.hasSpan(from, to)) {
            return INVALID_ARGUMENT;
        }
        history.remember(row);
        tally.fill(row, from, to);
        return row.layOut(from, to, tally);
    }

    // ---- levels

    public int levelOf(int level, int place, int what) {
        if (!isAtMost(level, LAST_LEVEL) || !row.hasPlace(place) || !isAtMost(what, 3)) {
            return INVALID_ARGUMENT;
        }
        if (level == LAST_LEVEL && (what == 1 || what == 2)) {
            return NOT_FOUND;
        }
        levels.build(row);
        if (what == 0) {
            return levels.symbolOf(level, place);
        }
        if (what == 1) {
            return levels.bitOf(level, place);
        }
        return what == 2 ? levels.goalOf(level, place) : levels.originOf(level, place);
    }

    public int blockOf(int level, int block, int what) {
        if (!hasBits(level) || block < 0 || !isAtMost(what, 2)) {
            return INVALID_ARGUMENT;
        }
        if (block >= blocks()) {
            return NOT_FOUND;
        }
        levels.build(row);
        int from = block * BLOCK_SIZE;
        int to = Math.min(from + BLOCK_SIZE, row.size());
        if (what == 0) {
            return (int) levels.packed(level, from, to);
        }
        return what == 1 ? levels.ones(level, from, to) : levels.ones(level, 0, from);
    }

    public long bits(int level) {
        if (!hasBits(level)) {
            return INVALID_ARGUMENT;
        }
        levels.build(row);
        return levels.packed(level, 0, row.size());
    }

    // ---- ranks

    public int symbolAt(int place) {
        if (place < 0) {
            return INVALID_ARGUMENT;
        }
        return row.hasPlace(place) ? row.at(place) : NOT_FOUND;
    }

    public int rank(int symbol, int to) {
        if (!isSymbol(symbol) || !isAtMost(to, row.size())) {
            return INVALID_ARGUMENT;
        }
        tally.fill(row, 0, to);
        return tally.times(symbol);
    }

    public int select(int symbol, int time) {
        if (!isSymbol(symbol) || time < 0) {
            return INVALID_ARGUMENT;
        }
        int seen = 0;
        for (int place = 0; place < row.size(); place++) {
            if (row.at(place) == symbol) {
                if (seen == time) {
                    return place;
                }
                seen++;
            }
        }
        return NOT_FOUND;
    }

    // ---- spans

    public int smallest(int from, int to, int index) {
        if (!row.hasSpan(from, to) || index < 0) {
            return INVALID_ARGUMENT;
        }
        tally.fill(row, from, to);
        return symbolOrNotFound(tally.symbolAtSorted(index));
    }

    public int below(int from, int to, int bound) {
        if (!row.hasSpan(from, to) || !isAtMost(bound, SYMBOL_KINDS)) {
            return INVALID_ARGUMENT;
        }
        tally.fill(row, from, to);
        return tally.timesBelow(bound);
    }

    public int notBelow(int from, int to, int bound) {
        if (!row.hasSpan(from, to) || !isSymbol(bound)) {
            return INVALID_ARGUMENT;
        }
        tally.fill(row, from, to);
        return symbolOrNotFound(tally.leastFrom(bound));
    }

    public int spanOf(int from, int to, int what) {
        if (!row.hasSpan(from, to) || !isAtMost(what, 5)) {
            return INVALID_ARGUMENT;
        }
        if (what == 3) {
            return row.sum(from, to);
        }
        if (what == 4) {
            return row.wrongPairs(from, to) == 0 ? 1 : 0;
        }
        if (what == 5) {
            return row.wrongPairs(from, to);
        }
        tally.fill(row, from, to);
        if (what == 0) {
            return tally.unlike();
        }
        int frequent = tally.mostFrequent();
        if (frequent == NONE) {
            return NOT_FOUND;
        }
        return what == 1 ? frequent : tally.times(frequent);
    }

    public long product(int from, int to) {
        if (!row.hasSpan(from, to)) {
            return INVALID_ARGUMENT;
        }
        long product = 1;
        for (int place = from; place < to; place++) {
            int factor = row.at(place) + 1;
            // Dividing the greatest product tells whether the product would wrap around.
            if (factor > 0 && product > GREATEST_PRODUCT / factor) {
                return LIMIT_REACHED;
            }
            product *= factor;
        }
        return product;
    }

    public int common(int from, int to, int otherFrom, int otherTo, int what) {
        if (!row.hasSpan(from, to) || !row.hasSpan(otherFrom, otherTo) || !isAtMost(what, 3)) {
            return INVALID_ARGUMENT;
        }
        tally.fill(row, from, to);
        otherTally.fill(row, otherFrom, otherTo);
        if (what == 3) {
            return tally.isLike(otherTally) ? 1 : 0;
        }
        tally.keepCommon(otherTally);
        if (what == 0) {
            return tally.unlike();
        }
        return what == 1 ? tally.timesBelow(SYMBOL_KINDS) : symbolOrNotFound(tally.leastFrom(0));
    }

    public int heaviest(int many, int what) {
        if (many < 1 || many > MOST_SYMBOLS || !isAtMost(what, 1)) {
            return INVALID_ARGUMENT;
        }
        if (many > row.size()) {
            return NOT_FOUND;
        }
        int best = 0;
        int bestSum = row.sum(0, many);
        for (int from = 1; from + many <= row.size(); from++) {
            int sum = row.sum(from, from + many);
            if (sum > bestSum) {
                best = from;
                bestSum = sum;
            }
        }
        return what == 0 ? best : bestSum;
    }

    public int count(int what) {
        switch (what) {
            case 0:
                return row.size();
            case 1:
                tally.fill(row, 0, row.size());
                return tally.unlike();
            case 2:
                return row.ones();
            case 3:
                return blocks();
            case 4:
                return history.size();
            case 5:
                return text.length();
            default:
                return INVALID_ARGUMENT;
        }
    }

    public int undo() {
        if (history.size() == 0) {
            return NOT_POSSIBLE;
        }
        history.restore(row);
        return history.size();
    }

    // ---- texts

    public int type(int character) {
        if (character < 32 || character > 126) {
            return INVALID_ARGUMENT;
        }
        if (text.length() >= MOST_CHARACTERS) {
            return LIMIT_REACHED;
        }
        text.append((char) character);
        return text.length();
    }

    public int clearText() {
        int length = text.length();
        text.empty();
        return length;
    }

    public int fault(int what) {
        if (!isAtMost(what, 2)) {
            return INVALID_ARGUMENT;
        }
        player.playAll(row);
        if (player.reason() == Player.NO_FAULT) {
            return NOT_FOUND;
        }
        if (what == 0) {
            return player.position();
        }
        if (what == 1) {
            return player.reason();
        }
        return player.reason() == Player.WRONG_FORM ? player.cause() : NOT_FOUND;
    }

    public int play() {
        player.playAll(row);
        if (player.reason() != Player.NO_FAULT) {
            return NOT_POSSIBLE;
        }
        history.remember(row);
        row.copyFrom(player.outcome());
        return row.size();
    }

    // ---- what the calls share

    private static boolean isAtMost(int number, int most) {
        return number >= 0 && number <= most;
    }

    private static boolean isSymbol(int number) {
        return number >= 0 && number < SYMBOL_KINDS;
    }

    /** The last level is sorted by all bits and has none of its own. */
    private static boolean hasBits(int level) {
        return level >= 0 && level < LAST_LEVEL;
    }

    private static int symbolOrNotFound(int symbol) {
        return symbol == NONE ? NOT_FOUND : symbol;
    }

    private int blocks() {
        return (row.size() + BLOCK_SIZE - 1) / BLOCK_SIZE;
    }

    /** The symbols. What a caller asks for outside of them is left undone. */
    private static final class Row {
        private final int[] symbols;
        private int size;

        Row() {
            symbols = new int[MOST_SYMBOLS];
            size = 0;
        }

        int size() {
            return size;
        }

        boolean hasPlace(int place) {
            return place >= 0 && place < size;
        }

        boolean hasSpan(int from, int to) {
            return from >= 0 && from <= to && to <= size;
        }

        int at(int place) {
            return hasPlace(place) ? symbols[place] : NONE;
        }

        void insert(int place, int symbol) {
            if (!isAtMost(place, size) || size >= MOST_SYMBOLS) {
                return;
            }
            for (int behind = size; behind > place; behind--) {
                symbols[behind] = symbols[behind - 1];
            }
            symbols[place] = symbol;
            size++;
        }

        void remove(int place) {
            if (!hasPlace(place)) {
                return;
            }
            for (int behind = place + 1; behind < size; behind++) {
                symbols[behind - 1] = symbols[behind];
            }
            size--;
        }

        void replace(int place, int symbol) {
            if (hasPlace(place)) {
                symbols[place] = symbol;
            }
        }

        void exchange(int one, int other) {
            int kept = at(one);
            if (hasPlace(one) && hasPlace(other)) {
                symbols[one] = symbols[other];
                symbols[other] = kept;
            }
        }

        /** Returns how many places have another symbol then. */
        int reverse(int from, int to) {
            int changed = 0;
            int behind = to - 1;
            for (int place = from; place < behind; place++) {
                if (at(place) != at(behind)) {
                    changed += 2;
                }
                exchange(place, behind);
                behind--;
            }
            return changed;
        }

        /** Writes the span anew, in order, from its tally; returns how many places have another symbol then. */
        int layOut(int from, int to, Tally tally) {
            int changed = 0;
            for (int place = from; place < to; place++) {
                int symbol = tally.symbolAtSorted(place - from);
                if (symbol != at(place)) {
                    changed++;
                }
                replace(place, symbol);
            }
            return changed;
        }

        int sum(int from, int to) {
            int sum = 0;
            for (int place = from; place < to; place++) {
                sum += at(place);
            }
            return sum;
        }

        int wrongPairs(int from, int to) {
            int pairs = 0;
            for (int one = from; one < to; one++) {
                for (int other = one + 1; other < to; other++) {
                    if (at(one) > at(other)) {
                        pairs++;
                    }
                }
            }
            return pairs;
        }

        /** A symbol has one bit in each of the levels with bits, so its ones are those of all of them. */
        int ones() {
            int ones = 0;
            for (int place = 0; place < size; place++) {
                ones += Integer.bitCount(at(place));
            }
            return ones;
        }

        void copyFrom(Row other) {
            size = other.size;
            for (int place = 0; place < size; place++) {
                symbols[place] = other.symbols[place];
            }
        }
    }

    /** How often each symbol stands in a span. */
    private static final class Tally {
        private final int[] times;

        Tally() {
            times = new int[SYMBOL_KINDS];
        }

        void fill(Row row, int from, int to) {
            for (int symbol = 0; symbol < SYMBOL_KINDS; symbol++) {
                times[symbol] = 0;
            }
            for (int place = from; place < to; place++) {
                int symbol = row.at(place);
                if (isSymbol(symbol)) {
                    times[symbol]++;
                }
            }
        }

        int times(int symbol) {
            return isSymbol(symbol) ? times[symbol] : 0;
        }

        int timesBelow(int bound) {
            int sum = 0;
            for (int symbol = 0; symbol < bound && symbol < SYMBOL_KINDS; symbol++) {
                sum += times[symbol];
            }
            return sum;
        }

        int unlike() {
            int unlike = 0;
            for (int symbol = 0; symbol < SYMBOL_KINDS; symbol++) {
                if (times[symbol] > 0) {
                    unlike++;
                }
            }
            return unlike;
        }

        int leastFrom(int bound) {
            for (int symbol = Math.max(bound, 0); symbol < SYMBOL_KINDS; symbol++) {
                if (times[symbol] > 0) {
                    return symbol;
                }
            }
            return NONE;
        }

        /** The symbol at this place if the span was sorted. */
        int symbolAtSorted(int index) {
            int left = index;
            for (int symbol = 0; symbol < SYMBOL_KINDS; symbol++) {
                if (left < times[symbol]) {
                    return symbol;
                }
                left -= times[symbol];
            }
            return NONE;
        }

        int mostFrequent() {
            int best = NONE;
            for (int symbol = 0; symbol < SYMBOL_KINDS; symbol++) {
                if (times[symbol] > times(best)) {
                    best = symbol;
                }
            }
            return best;
        }

        boolean isLike(Tally other) {
            for (int symbol = 0; symbol < SYMBOL_KINDS; symbol++) {
                if (times[symbol] != other.times[symbol]) {
                    return false;
                }
            }
            return true;
        }

        void keepCommon(Tally other) {
            for (int symbol = 0; symbol < SYMBOL_KINDS; symbol++) {
                times[symbol] = Math.min(times[symbol], other.times[symbol]);
            }
        }
    }

    /** The levels of a row, as it was when they were built. */
    private static final class Levels {
        private final int[][] symbols;
        private final int[][] origins;
        private final int[][] goals;
        private int size;

        Levels() {
            symbols = new int[LAST_LEVEL + 1][MOST_SYMBOLS];
            origins = new int[LAST_LEVEL + 1][MOST_SYMBOLS];
            goals = new int[LAST_LEVEL][MOST_SYMBOLS];
            size = 0;
        }

        void build(Row row) {
            size = row.size();
            for (int place = 0; place < size; place++) {
                symbols[0][place] = row.at(place);
                origins[0][place] = place;
            }
            for (int level = 0; level < LAST_LEVEL; level++) {
                int zeros = moveBits(level, 0, 0);
                moveBits(level, 1, zeros);
            }
        }

        /** Moves the symbols with this bit to the next level, from a goal on; returns the goal behind them. */
        private int moveBits(int level, int bit, int firstGoal) {
            int goal = firstGoal;
            for (int place = 0; place < size; place++) {
                if (bitOf(level, place) == bit && goal < size) {
                    goals[level][place] = goal;
                    symbols[level + 1][goal] = symbols[level][place];
                    origins[level + 1][goal] = origins[level][place];
                    goal++;
                }
            }
            return goal;
        }

        private boolean isOn(int level, int place) {
            return isAtMost(level, LAST_LEVEL) && place >= 0 && place < size;
        }

        int symbolOf(int level, int place) {
            return isOn(level, place) ? symbols[level][place] : NONE;
        }

        int bitOf(int level, int place) {
            return hasBits(level) && isOn(level, place) ? (symbols[level][place] >> (3 - level)) & 1 : NONE;
        }

        int goalOf(int level, int place) {
            return hasBits(level) && isOn(level, place) ? goals[level][place] : NONE;
        }

        int originOf(int level, int place) {
            return isOn(level, place) ? origins[level][place] : NONE;
        }

        /** The bits of a level from a place on, the first one being bit 0. */
        long packed(int level, int from, int to) {
            long bits = 0;
            for (int place = from; place < to; place++) {
                if (bitOf(level, place) == 1) {
                    bits |= 1L << (place - from);
                }
            }
            return bits;
        }

        int ones(int level, int from, int to) {
            return Long.bitCount(packed(level, from, to));
        }
    }

    /** The states ahead of the latest changes, the oldest one first. */
    private static final class History {
        private final Row[] states;
        private int size;

        History() {
            states = new Row[MOST_STATES];
            for (int state = 0; state < MOST_STATES; state++) {
                states[state] = new Row();
            }
            size = 0;
        }

        int size() {
            return size;
        }

        void remember(Row row) {
            if (size >= MOST_STATES) {
                dropOldest();
            }
            states[size].copyFrom(row);
            size++;
        }

        private void dropOldest() {
            for (int state = 1; state < MOST_STATES; state++) {
                states[state - 1].copyFrom(states[state]);
            }
            size = MOST_STATES - 1;
        }

        void restore(Row row) {
            if (size > 0) {
                size--;
                row.copyFrom(states[size]);
            }
        }
    }

    /** The text of edits. */
    private static final class Text {
        private final char[] characters;
        private int length;

        Text() {
            characters = new char[MOST_CHARACTERS];
            length = 0;
        }

        int length() {
            return length;
        }

        int at(int position) {
            return position >= 0 && position < length ? characters[position] : NONE;
        }

        int digitAt(int position) {
            return digitOf(at(position));
        }

        int symbolValueAt(int position) {
            int character = at(position);
            return character >= 'a' && character <= 'f' ? character - 'a' + 10 : digitOf(character);
        }

        private static int digitOf(int character) {
            return character >= '0' && character <= '9' ? character - '0' : NONE;
        }

        void append(char character) {
            if (length < MOST_CHARACTERS) {
                characters[length] = character;
                length++;
            }
        }

        void empty() {
            length = 0;
        }
    }

    /** Plays the edits of a text on a copy of a row, so that a fault leaves the row as it was. */
    private static final class Player {
        static final int NO_FAULT = 0;
        static final int WRONG_FORM = 1;
        static final int NO_SUCH_PLACE = 2;
        static final int TOO_MANY = 3;

        private final Text text;
        private final Row outcome;
        private int next;
        private int kind;
        private int first;
        private int second;
        private int symbolsFrom;
        private int position;
        private int reason;
        private int cause;

        Player() {
            text = new Text();
            outcome = new Row();
        }

        Text text() {
            return text;
        }

        Row outcome() {
            return outcome;
        }

        int position() {
            return position;
        }

        int reason() {
            return reason;
        }

        int cause() {
            return cause;
        }

        void playAll(Row row) {
            outcome.copyFrom(row);
            next = 0;
            reason = NO_FAULT;
            for (int edit = 0; edit < MOST_CHARACTERS && reason == NO_FAULT && next < text.length(); edit++) {
                playEdit();
            }
        }

        private void playEdit() {
            position = next;
            if (!readEdit()) {
                reason = WRONG_FORM;
                cause = next - position;
                return;
            }
            reason = reasonAgainst();
            if (reason == NO_FAULT) {
                perform();
            }
        }

        /** Reads on to the end of the edit, or up to the character at which it breaks off. */
        private boolean readEdit() {
            kind = text.at(next);
            if (kind != '+' && kind != '-' && kind != 'x' && kind != 'r') {
                return false;
            }
            next++;
            first = readNumber();
            if (first == NONE || !readSign(',')) {
                return false;
            }
            second = kind == '+' ? readSymbols() : readNumber();
            return second != NONE && readSign(';');
        }

        private boolean readSign(char sign) {
            if (text.at(next) != sign) {
                return false;
            }
            next++;
            return true;
        }

        private int readNumber() {
            int number = text.digitAt(next);
            if (number == NONE) {
                return NONE;
            }
            next++;
            int digit = text.digitAt(next);
            if (digit == NONE) {
                return number;
            }
            next++;
            return number * 10 + digit;
        }

        /** Returns how many symbols there are, or NONE if there is not one. */
        private int readSymbols() {
            symbolsFrom = next;
            for (int symbol = 0; symbol < MOST_CHARACTERS && text.symbolValueAt(next) != NONE; symbol++) {
                next++;
            }
            return next > symbolsFrom ? next - symbolsFrom : NONE;
        }

        private int reasonAgainst() {
            if (!hasPlaces()) {
                return NO_SUCH_PLACE;
            }
            return kind == '+' && outcome.size() + second > MOST_SYMBOLS ? TOO_MANY : NO_FAULT;
        }

        private boolean hasPlaces() {
            switch (kind) {
                case '+':
                    return isAtMost(first, outcome.size());
                case '-':
                    return outcome.hasSpan(first, first + second);
                case 'x':
                    return outcome.hasPlace(first) && outcome.hasPlace(second);
                default:
                    return outcome.hasSpan(first, second);
            }
        }

        private void perform() {
            switch (kind) {
                case '+':
                    putSymbolsIn();
                    break;
                case '-':
                    takeSpanOut();
                    break;
                case 'x':
                    outcome.exchange(first, second);
                    break;
                default:
                    outcome.reverse(first, second);
                    break;
            }
        }

        private void putSymbolsIn() {
            for (int symbol = 0; symbol < second; symbol++) {
                outcome.insert(first + symbol, text.symbolValueAt(symbolsFrom + symbol));
            }
        }

        private void takeSpanOut() {
            for (int taken = 0; taken < second; taken++) {
                outcome.remove(first);
            }
        }
    }
}
