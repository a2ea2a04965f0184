import java.math.BigInteger;
import java.util.ArrayDeque;
import java.util.ArrayList;
import java.util.Collections;
import java.util.Comparator;
import java.util.HashMap;
import java.util.List;
import java.util.Map;
import java.util.TreeSet;
import java.util.function.IntPredicate;
import java.util.regex.Matcher;
import java.util.regex.Pattern;

// Long runs of calls, answered by the program and by a plain model of the document; all answers must be the same.
public final class ModelTest {
    private static final int INVALID = BitLevels.INVALID_ARGUMENT;
    private static final int IMPOSSIBLE = BitLevels.NOT_POSSIBLE;
    private static final int LIMIT = BitLevels.LIMIT_REACHED;
    private static final int MISSING = BitLevels.NOT_FOUND;
    private static final int RUNS = 1500;
    private static final int CALLS = 512;
    private static final int CALL_KINDS = 26;
    private static final int[] EXTREMES = {Integer.MIN_VALUE, -2, -1, 61, 100, 1 << 28, Integer.MAX_VALUE};

    // ---- the model

    private List<Integer> row = new ArrayList<>();
    private String text = "";
    private final ArrayDeque<List<Integer>> history = new ArrayDeque<>();

    private void changeTo(List<Integer> next) {
        history.addLast(row);
        if (history.size() > 4) {
            history.removeFirst();
        }
        row = next;
    }

    private boolean noPlace(int place) {
        return place < 0 || place >= row.size();
    }

    private boolean noSpan(int from, int to) {
        return from < 0 || to < from || to > row.size();
    }

    private static boolean outside(int number, int least, int most) {
        return number < least || number > most;
    }

    private static int unequal(List<Integer> one, List<Integer> other) {
        int unequal = 0;
        for (int place = 0; place < one.size(); place++) {
            if (!one.get(place).equals(other.get(place))) {
                unequal++;
            }
        }
        return unequal;
    }

    private int put(int place, int symbol) {
        if (outside(place, 0, row.size()) || outside(symbol, 0, 15)) {
            return INVALID;
        }
        if (row.size() == 60) {
            return LIMIT;
        }
        List<Integer> next = new ArrayList<>(row);
        next.add(place, symbol);
        changeTo(next);
        return row.size();
    }

    private int take(int place) {
        if (noPlace(place)) {
            return INVALID;
        }
        List<Integer> next = new ArrayList<>(row);
        int taken = next.remove(place);
        changeTo(next);
        return taken;
    }

    private int change(int place, int symbol) {
        if (noPlace(place) || outside(symbol, 0, 15)) {
            return INVALID;
        }
        List<Integer> next = new ArrayList<>(row);
        int replaced = next.set(place, symbol);
        changeTo(next);
        return replaced;
    }

    private int swap(int one, int other) {
        if (noPlace(one) || noPlace(other)) {
            return INVALID;
        }
        List<Integer> next = new ArrayList<>(row);
        Collections.swap(next, one, other);
        int answer = next.equals(row) ? 0 : 1;
        changeTo(next);
        return answer;
    }

    private int turnOrSort(boolean sorts, int from, int to) {
        if (noSpan(from, to)) {
            return INVALID;
        }
        List<Integer> next = new ArrayList<>(row);
        if (sorts) {
            Collections.sort(next.subList(from, to));
        } else {
            Collections.reverse(next.subList(from, to));
        }
        int answer = unequal(row, next);
        changeTo(next);
        return answer;
    }

    /** The places of the row in the order of a level. */
    private List<Integer> placesOf(int level) {
        List<Integer> places = new ArrayList<>();
        for (int place = 0; place < row.size(); place++) {
            places.add(place);
        }
        for (int done = 0; done < level; done++) {
            int weight = 8 >> done;
            places.sort(Comparator.comparing(place -> row.get(place) & weight));
        }
        return places;
    }

    private String bitText(int level) {
        StringBuilder bits = new StringBuilder();
        for (int place : placesOf(level)) {
            bits.append((row.get(place) & (8 >> level)) == 0 ? '0' : '1');
        }
        return bits.toString();
    }

    private static long numberOf(String bits) {
        return bits.isEmpty() ? 0 : Long.parseLong(new StringBuilder(bits).reverse().toString(), 2);
    }

    private static int onesOf(String bits) {
        return bits.replace("0", "").length();
    }

    private int levelOf(int level, int place, int what) {
        if (outside(level, 0, 4) || noPlace(place) || outside(what, 0, 3)) {
            return INVALID;
        }
        int origin = placesOf(level).get(place);
        switch (what) {
            case 0:
                return row.get(origin);
            case 1:
                return level == 4 ? MISSING : bitText(level).charAt(place) - '0';
            case 2:
                return level == 4 ? MISSING : placesOf(level + 1).indexOf(origin);
            default:
                return origin;
        }
    }

    private int blockOf(int level, int block, int what) {
        if (outside(level, 0, 3) || block < 0 || outside(what, 0, 2)) {
            return INVALID;
        }
        String bits = bitText(level);
        if (8L * block >= bits.length()) {
            return MISSING;
        }
        String own = bits.substring(8 * block).replaceAll("^(.{8}).*$", "$1");
        if (what == 2) {
            return onesOf(bits.substring(0, 8 * block));
        }
        return what == 0 ? (int) numberOf(own) : onesOf(own);
    }

    private long bits(int level) {
        return outside(level, 0, 3) ? INVALID : numberOf(bitText(level));
    }

    private int symbolAt(int place) {
        return place < 0 ? INVALID : place < row.size() ? row.get(place) : MISSING;
    }

    private int rank(int symbol, int to) {
        if (outside(symbol, 0, 15) || outside(to, 0, row.size())) {
            return INVALID;
        }
        return Collections.frequency(row.subList(0, to), symbol);
    }

    private int select(int symbol, int time) {
        if (outside(symbol, 0, 15) || time < 0) {
            return INVALID;
        }
        for (int place = 0; place < row.size(); place++) {
            if (row.get(place) == symbol && rank(symbol, place) == time) {
                return place;
            }
        }
        return MISSING;
    }

    private int smallest(int from, int to, int index) {
        if (noSpan(from, to) || index < 0) {
            return INVALID;
        }
        return index < to - from ? sortedSpan(from, to).get(index) : MISSING;
    }

    private List<Integer> sortedSpan(int from, int to) {
        List<Integer> span = new ArrayList<>(row.subList(from, to));
        Collections.sort(span);
        return span;
    }

    private int below(int from, int to, int bound) {
        if (noSpan(from, to) || outside(bound, 0, 16)) {
            return INVALID;
        }
        return (int) row.subList(from, to).stream().filter(symbol -> symbol < bound).count();
    }

    private int notBelow(int from, int to, int bound) {
        if (noSpan(from, to) || outside(bound, 0, 15)) {
            return INVALID;
        }
        Integer least = new TreeSet<>(row.subList(from, to)).ceiling(bound);
        return least == null ? MISSING : least;
    }

    private int spanOf(int from, int to, int what) {
        if (noSpan(from, to) || outside(what, 0, 5)) {
            return INVALID;
        }
        List<Integer> span = row.subList(from, to);
        TreeSet<Integer> unlike = new TreeSet<>(span);
        switch (what) {
            case 0:
                return unlike.size();
            case 1:
            case 2:
                int most = -1;
                for (int symbol : unlike) {
                    if (most < 0 || Collections.frequency(span, symbol) > Collections.frequency(span, most)) {
                        most = symbol;
                    }
                }
                return most < 0 ? MISSING : what == 1 ? most : Collections.frequency(span, most);
            case 3:
                return sumOf(span);
            case 4:
                return sortedSpan(from, to).equals(span) ? 1 : 0;
            default:
                return wrongPairs(span);
        }
    }

    private static int wrongPairs(List<Integer> span) {
        int pairs = 0;
        for (int place = 1; place < span.size(); place++) {
            int symbol = span.get(place);
            pairs += span.subList(0, place).stream().filter(ahead -> ahead > symbol).count();
        }
        return pairs;
    }

    private static int sumOf(List<Integer> span) {
        return span.stream().mapToInt(Integer::intValue).sum();
    }

    private long product(int from, int to) {
        if (noSpan(from, to)) {
            return INVALID;
        }
        BigInteger product = BigInteger.ONE;
        for (int symbol : row.subList(from, to)) {
            product = product.multiply(BigInteger.valueOf(symbol + 1));
        }
        return product.bitLength() > 63 ? LIMIT : product.longValueExact();
    }

    private int common(int from, int to, int otherFrom, int otherTo, int what) {
        if (noSpan(from, to) || noSpan(otherFrom, otherTo) || outside(what, 0, 3)) {
            return INVALID;
        }
        if (what == 3) {
            return sortedSpan(from, to).equals(sortedSpan(otherFrom, otherTo)) ? 1 : 0;
        }
        List<Integer> left = new ArrayList<>(row.subList(otherFrom, otherTo));
        List<Integer> both = new ArrayList<>();
        for (Integer symbol : row.subList(from, to)) {
            if (left.remove(symbol)) {
                both.add(symbol);
            }
        }
        if (what == 0) {
            return new TreeSet<>(both).size();
        }
        return what == 1 ? both.size() : both.isEmpty() ? MISSING : Collections.min(both);
    }

    private int heaviest(int many, int what) {
        if (outside(many, 1, 60) || outside(what, 0, 1)) {
            return INVALID;
        }
        List<Integer> sums = new ArrayList<>();
        for (int from = 0; from + many <= row.size(); from++) {
            sums.add(sumOf(row.subList(from, from + many)));
        }
        if (sums.isEmpty()) {
            return MISSING;
        }
        int best = Collections.max(sums);
        return what == 0 ? sums.indexOf(best) : best;
    }

    private int count(int what) {
        switch (what) {
            case 0:
                return row.size();
            case 1:
                return new TreeSet<>(row).size();
            case 2:
                return onesOf(bitText(0) + bitText(1) + bitText(2) + bitText(3));
            case 3:
                return (int) Math.ceil(row.size() / 8.0);
            case 4:
                return history.size();
            case 5:
                return text.length();
            default:
                return INVALID;
        }
    }

    private int undo() {
        if (history.isEmpty()) {
            return IMPOSSIBLE;
        }
        row = history.removeLast();
        return history.size();
    }

    private int type(int character) {
        if (outside(character, 32, 126)) {
            return INVALID;
        }
        if (text.length() == 60) {
            return LIMIT;
        }
        text += (char) character;
        return text.length();
    }

    private int clearText() {
        int length = text.length();
        text = "";
        return length;
    }

    private static final Pattern EDIT =
            Pattern.compile("(?:\\+(\\d\\d?),([0-9a-f]+)|-(\\d\\d?),(\\d\\d?)|x(\\d\\d?),(\\d\\d?)|r(\\d\\d?),(\\d\\d?));");

    /** Position, reason and cause of the fault, or null; fills the row that the edits make. */
    private int[] faultOf(List<Integer> outcome) {
        int position = 0;
        while (position < text.length()) {
            Matcher edit = EDIT.matcher(text).region(position, text.length());
            if (!edit.lookingAt()) {
                return new int[] {position, 1, breakOf(text.substring(position))};
            }
            int reason = reasonOf(edit, outcome);
            if (reason != 0) {
                return new int[] {position, reason, MISSING};
            }
            position = edit.end();
        }
        return null;
    }

    /** How many characters could still begin an edit. */
    private static int breakOf(String rest) {
        int length = 0;
        while (length < rest.length()) {
            Matcher beginning = EDIT.matcher(rest.substring(0, length + 1));
            if (!beginning.matches() && !beginning.hitEnd()) {
                return length;
            }
            length++;
        }
        return length;
    }

    private static int reasonOf(Matcher edit, List<Integer> outcome) {
        int size = outcome.size();
        if (edit.group(1) != null) {
            int place = Integer.parseInt(edit.group(1));
            if (place > size) {
                return 2;
            }
            if (size + edit.group(2).length() > 60) {
                return 3;
            }
            List<Integer> symbols = new ArrayList<>();
            edit.group(2).chars().forEach(symbol -> symbols.add(Character.digit(symbol, 16)));
            outcome.addAll(place, symbols);
            return 0;
        }
        int group = edit.group(3) != null ? 3 : edit.group(5) != null ? 5 : 7;
        int first = Integer.parseInt(edit.group(group));
        int second = Integer.parseInt(edit.group(group + 1));
        IntPredicate isBound = place -> place <= size;
        if (group == 3) {
            if (!isBound.test(first + second)) {
                return 2;
            }
            outcome.subList(first, first + second).clear();
        } else if (group == 5) {
            if (first == size || second == size || !isBound.test(first) || !isBound.test(second)) {
                return 2;
            }
            Collections.swap(outcome, first, second);
        } else {
            if (first > second || !isBound.test(second)) {
                return 2;
            }
            Collections.reverse(outcome.subList(first, second));
        }
        return 0;
    }

    private int fault(int what) {
        if (outside(what, 0, 2)) {
            return INVALID;
        }
        int[] fault = faultOf(new ArrayList<>(row));
        return fault == null ? MISSING : fault[what];
    }

    private int play() {
        List<Integer> outcome = new ArrayList<>(row);
        if (faultOf(outcome) != null) {
            return IMPOSSIBLE;
        }
        changeTo(outcome);
        return row.size();
    }

    // ---- the calls

    private static long state = 20261118;
    private static int wrong = 0;
    private static final Map<String, Integer> seen = new HashMap<>();

    private static int below(int bound) {
        state = state * 6364136223846793005L + 1442695040888963407L;
        return (int) ((state >>> 33) % bound);
    }

    private static int number(int most) {
        return below(24) == 0 ? EXTREMES[below(EXTREMES.length)] : below(most + 2) - (below(most + 2) == 0 ? 1 : 0);
    }

    private int place() {
        return number(row.size());
    }

    private int bound(int from) {
        return below(8) == 0 ? place() : Math.max(from, 0) + below(Math.max(1, row.size() - Math.max(from, 0) + 1));
    }

    private void same(String call, long got, long want) {
        String name = call.substring(0, call.indexOf('('));
        boolean tells = want <= INVALID || call.startsWith("fault(1)");
        seen.merge(tells ? name + " " + want : name, 1, Integer::sum);
        if (got != want) {
            wrong++;
            System.out.println(call + " on " + row + " with " + text + " answered " + got + ", due is " + want);
        }
    }

    private void answerEdit(BitLevels x, int kind) {
        int one = place();
        int other = kind < 4 ? place() : bound(one);
        int symbol = below(6) == 0 ? number(15) : below(below(2) == 0 ? 4 : 16);
        String on = "(" + one + ", " + other + ")";
        switch (kind) {
            case 0:
                same("put(" + one + ", " + symbol + ")", x.put(one, symbol), put(one, symbol));
                break;
            case 1:
                same("take(" + one + ")", x.take(one), take(one));
                break;
            case 2:
                same("change(" + one + ", " + symbol + ")", x.change(one, symbol), change(one, symbol));
                break;
            case 3:
                same("swap" + on, x.swap(one, other), swap(one, other));
                break;
            case 4:
                same("turn" + on, x.turn(one, other), turnOrSort(false, one, other));
                break;
            default:
                same("sort" + on, x.sort(one, other), turnOrSort(true, one, other));
                break;
        }
    }

    private void answerLevel(BitLevels x, int kind) {
        int level = number(3);
        int what = number(3);
        int place = place();
        switch (kind) {
            case 6:
                same("levelOf(" + level + ", " + place + ", " + what + ")", x.levelOf(level, place, what),
                        levelOf(level, place, what));
                break;
            case 7:
                int block = number(row.size() / 8 + 1);
                same("blockOf(" + level + ", " + block + ", " + what + ")", x.blockOf(level, block, what),
                        blockOf(level, block, what));
                break;
            default:
                same("bits(" + level + ")", x.bits(level), bits(level));
                break;
        }
    }

    private void answerRank(BitLevels x, int kind) {
        int place = place();
        int symbol = number(15);
        int time = number(4);
        switch (kind) {
            case 9:
                same("symbolAt(" + place + ")", x.symbolAt(place), symbolAt(place));
                break;
            case 10:
                same("rank(" + symbol + ", " + place + ")", x.rank(symbol, place), rank(symbol, place));
                break;
            default:
                same("select(" + symbol + ", " + time + ")", x.select(symbol, time), select(symbol, time));
                break;
        }
    }

    private void answerSpan(BitLevels x, int kind) {
        int from = place();
        int to = bound(from);
        String on = "(" + from + ", " + to;
        int index = number(15);
        int what = number(5);
        switch (kind) {
            case 12:
                same("smallest" + on + ", " + index + ")", x.smallest(from, to, index), smallest(from, to, index));
                break;
            case 13:
                same("below" + on + ", " + index + ")", x.below(from, to, index), below(from, to, index));
                break;
            case 14:
                same("notBelow" + on + ", " + index + ")", x.notBelow(from, to, index), notBelow(from, to, index));
                break;
            case 15:
                same("spanOf" + on + ", " + what + ")", x.spanOf(from, to, what), spanOf(from, to, what));
                break;
            case 16:
                same("product" + on + ")", x.product(from, to), product(from, to));
                break;
            default:
                int otherFrom = place();
                int otherTo = below(3) == 0 ? otherFrom + to - from : bound(otherFrom);
                what = number(3);
                same("common" + on + ", " + otherFrom + ", " + otherTo + ", " + what + ")",
                        x.common(from, to, otherFrom, otherTo, what), common(from, to, otherFrom, otherTo, what));
                break;
        }
    }

    private void answerRest(BitLevels x, int kind) {
        int what = number(2);
        int many = below(4) == 0 ? number(60) : number(row.size());
        switch (kind) {
            case 18:
                same("heaviest(" + many + ", " + what + ")", x.heaviest(many, what), heaviest(many, what));
                break;
            case 19:
                what = number(5);
                same("count(" + what + ")", x.count(what), count(what));
                break;
            case 20:
                same("undo()", x.undo(), undo());
                break;
            case 21:
                if (text.length() > 30 || below(3) == 0) {
                    same("clearText()", x.clearText(), clearText());
                }
                break;
            case 22:
                int character = below(2) == 0 ? number(126) : 29 + below(100);
                same("type(" + character + ")", x.type(character), type(character));
                break;
            case 23:
                typeEdit(x);
                break;
            case 24:
                same("fault(" + what + ")", x.fault(what), fault(what));
                break;
            default:
                same("play()", x.play(), play());
                break;
        }
    }

    private String editNumber() {
        int number = below(10) == 0 ? below(100) : below(row.size() + 2);
        return (number < 10 && below(3) == 0 ? "0" : "") + number;
    }

    /** Types an edit, one in three with a character that is left out, put in or changed. */
    private void typeEdit(BitLevels x) {
        char kind = "++++-xr".charAt(below(7));
        StringBuilder edit = new StringBuilder().append(kind).append(editNumber()).append(',');
        if (kind == '+') {
            for (int many = below(below(4) == 0 ? 40 : 8) + 1; many > 0; many--) {
                edit.append("0123456789abcdef".charAt(below(16)));
            }
        } else {
            edit.append(kind == '-' ? String.valueOf(below(6)) : editNumber());
        }
        edit.append(';');
        int damaged = below(edit.length());
        char damage = "+-xr,;0159afgF ".charAt(below(15));
        switch (below(9)) {
            case 0:
                edit.deleteCharAt(damaged);
                break;
            case 1:
                edit.insert(damaged, damage);
                break;
            case 2:
                edit.setCharAt(damaged, damage);
                break;
            default:
                break;
        }
        for (int at = 0; at < edit.length(); at++) {
            same("type(" + edit.charAt(at) + ")", x.type(edit.charAt(at)), type(edit.charAt(at)));
            calls++;
        }
    }

    private int calls = 0;

    private void answer(BitLevels x) {
        calls++;
        int kind = below(5) == 0 ? 0 : below(6) == 0 ? 23 + below(3) : below(CALL_KINDS);
        if (kind < 6) {
            answerEdit(x, kind);
        } else if (kind < 9) {
            answerLevel(x, kind);
        } else if (kind < 12) {
            answerRank(x, kind);
        } else if (kind < 18) {
            answerSpan(x, kind);
        } else {
            answerRest(x, kind);
        }
    }

    private void allAsDue(BitLevels x) {
        for (int place = 0; place < row.size(); place++) {
            same("symbolAt(" + place + ")", x.symbolAt(place), symbolAt(place));
        }
        for (int what = 0; what <= 5; what++) {
            same("count(" + what + ")", x.count(what), count(what));
        }
    }

    // ---- all texts of few characters

    private static void shortTexts() {
        String signs = "+-xr,;01cg";
        for (int length = 0; length <= 5; length++) {
            int texts = (int) Math.pow(signs.length(), length);
            for (int number = 0; number < texts; number++) {
                StringBuilder text = new StringBuilder();
                int rest = number;
                for (int at = 0; at < length; at++) {
                    text.append(signs.charAt(rest % signs.length()));
                    rest /= signs.length();
                }
                shortText(text.toString());
            }
        }
    }

    private static void shortText(String text) {
        BitLevels x = new BitLevels();
        ModelTest model = new ModelTest();
        x.put(0, 7);
        model.put(0, 7);
        for (int at = 0; at < text.length(); at++) {
            x.type(text.charAt(at));
            model.type(text.charAt(at));
        }
        for (int what = 0; what <= 2; what++) {
            model.same("fault(" + what + ")", x.fault(what), model.fault(what));
        }
        model.same("play()", x.play(), model.play());
        model.allAsDue(x);
    }

    public static void main(String[] args) {
        for (int run = 0; run < RUNS; run++) {
            ModelTest model = new ModelTest();
            BitLevels x = new BitLevels();
            while (model.calls < CALLS - 140) {
                model.answer(x);
            }
            model.allAsDue(x);
        }
        shortTexts();
        if (args.length > 0) {
            new java.util.TreeMap<>(seen).forEach((kind, times) -> System.out.println(kind + ": " + times));
        }
        System.out.println(wrong == 0 ? "program and model answer alike" : wrong + " answers are not alike");
        if (wrong != 0) {
            System.exit(1);
        }
    }
}
