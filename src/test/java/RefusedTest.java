import java.util.ArrayList;
import java.util.LinkedHashMap;
import java.util.List;
import java.util.Map;

/**
 * "It names its errors in the order in which they are checked, and the first one that applies is returned. A call that
 * returns an error changes nothing." Each refused call, and each question, is made on one of two objects that have had
 * the same calls; all that can be learnt of the two then, up to their last state, has to be the same.
 */
public final class RefusedTest {
    private static final int NO_SUCH = -1, BAD_VALUE = -2, BAD_TEXT = -3, TOO_MANY = -4, NOT_POSSIBLE = -5;
    private static final int BLOCK = 0, ONES = 1;
    private static final int MOST_CALLS = 512;
    private static int wrong = 0;

    /** A call with its arguments. */
    private interface Call {
        long on(RiceBlocks x);
    }

    /** Makes an object with some calls behind it. */
    private interface Past {
        RiceBlocks made();
    }

    public static void main(String[] args) {
        changesOfAnyRow();
        changesThatDoNotFitTheRow();
        changesOfAFullRow();
        texts();
        slotsAndUndo();
        askedForWhatIsNotThere();
        askedForWhatIsNoQuestion();
        severalErrors();
        questions();
        System.out.println(wrong == 0 ? "errors and questions change nothing" : wrong + " answers are wrong");
        if (wrong != 0) {
            System.exit(1);
        }
    }

    // ---- objects with something in all that can be changed

    // Slot 1 is empty, the pad has a fault, and the history is full.
    private static RiceBlocks lived() {
        RiceBlocks x = new RiceBlocks();
        x.set(BLOCK, 3);
        x.set(ONES, 5);
        for (int number : new int[] {10, 20, 400, 5000, 60000}) {
            x.putIn(number);
        }
        x.save(0);
        x.putIn(30);
        x.takeOut(20);
        x.shift(1, 7);
        write(x, "+1,2;-");
        return x;
    }

    // The pad has 27 orders in 80 characters, and both slots are used.
    private static RiceBlocks full() {
        RiceBlocks x = new RiceBlocks();
        x.save(1);
        for (int i = 0; i < 64; i++) {
            x.putIn(i * 1000);
        }
        x.save(0);
        write(x, "b2;".repeat(26) + "b3");
        return x;
    }

    // The history has one state, and place 0 of it was used before.
    private static RiceBlocks undone() {
        RiceBlocks x = new RiceBlocks();
        x.putIn(5);
        x.putIn(6);
        x.undo();
        return x;
    }

    private static void write(RiceBlocks x, String text) {
        for (int i = 0; i < text.length(); i += 8) {
            x.put(packed(text.substring(i, Math.min(text.length(), i + 8))));
        }
    }

    private static long packed(String text) {
        long packed = 0;
        for (char c : text.toCharArray()) {
            packed = packed << 8 | c;
        }
        return packed;
    }

    // ---- all that can be learnt of an object

    /** Asks and then uses up an object, and keeps each answer. */
    private static final class Story {
        private final RiceBlocks x;
        private final List<Long> answers = new ArrayList<>();

        Story(RiceBlocks x) {
            this.x = x;
        }

        List<Long> told() {
            everything();
            // Behind the pad of lived() this makes a whole text, of which the last order is refused.
            add(x.put(packed("10")));
            add(x.fault());
            add(x.carryOut());
            shortly();
            add(x.wipe());
            for (int i = 0; i < 7; i++) {
                add(x.undo());
                shortly();
            }
            for (int slot = 0; slot <= 1; slot++) {
                add(x.restore(slot));
                shortly();
            }
            return answers;
        }

        private void add(long answer) {
            answers.add(answer);
        }

        private void everything() {
            for (int what = 0; what < 10; what++) {
                add(x.count(what));
            }
            int numbers = x.count(0);
            int bits = x.count(2);
            for (int place = 0; place < numbers; place++) {
                add(x.at(place, 0));
            }
            for (int place = 0; place < bits; place += 32) {
                add(x.bits(place));
            }
            add(x.fault());
            add(x.check());
        }

        private void shortly() {
            for (int what : new int[] {0, 2, 6, 7, 9}) {
                add(x.count(what));
            }
            add(x.bits(0));
            add(x.bits(32));
            add(x.at(1, 0));
        }
    }

    private static void due(String text, long got, long want) {
        if (got != want) {
            wrong++;
            System.out.println(text + " answered " + got + ", due is " + want);
        }
    }

    private static void refused(String text, Past past, int error, Call call) {
        RiceBlocks x = past.made();
        due(text, call.on(x), error);
        unchanged(text, x, past.made());
    }

    private static void unchanged(String text, RiceBlocks x, RiceBlocks twin) {
        List<Long> got = new Story(x).told();
        List<Long> want = new Story(twin).told();
        // Nothing is promised behind the last call; no object here has had more than 80 ahead of its story.
        due("whether the story of " + text + " stays within the calls", 80 + 2 + got.size() <= MOST_CALLS ? 1 : 0, 1);
        if (!got.equals(want)) {
            wrong++;
            System.out.println(text + " changed something: " + got + ", due is " + want);
        }
    }

    // ---- each error by itself

    private static void changesOfAnyRow() {
        for (Past past : List.<Past>of(RiceBlocks::new, RefusedTest::lived, RefusedTest::full, RefusedTest::undone)) {
            refused("set(-1, 4)", past, BAD_VALUE, x -> x.set(-1, 4));
            refused("set(2, 4)", past, BAD_VALUE, x -> x.set(2, 4));
            refused("set(BLOCK, 0)", past, BAD_VALUE, x -> x.set(BLOCK, 0));
            refused("set(BLOCK, 17)", past, BAD_VALUE, x -> x.set(BLOCK, 17));
            refused("set(ONES, 0)", past, BAD_VALUE, x -> x.set(ONES, 0));
            refused("set(ONES, 31)", past, BAD_VALUE, x -> x.set(ONES, 31));
            refused("putIn(-1)", past, BAD_VALUE, x -> x.putIn(-1));
            refused("putIn(65536)", past, BAD_VALUE, x -> x.putIn(65536));
            refused("takeOut(-1)", past, BAD_VALUE, x -> x.takeOut(-1));
            refused("takeOut(65536)", past, BAD_VALUE, x -> x.takeOut(65536));
            refused("takeOut(11)", past, NO_SUCH, x -> x.takeOut(11));
            refused("shift(-1, 1)", past, NO_SUCH, x -> x.shift(-1, 1));
            refused("shift(64, 1)", past, NO_SUCH, x -> x.shift(64, 1));
        }
    }

    private static void changesThatDoNotFitTheRow() {
        // The row of lived() is 10, 37, 407, 5007, 60007.
        Past past = RefusedTest::lived;
        refused("putIn(10)", past, NOT_POSSIBLE, x -> x.putIn(10));
        refused("putIn(407)", past, NOT_POSSIBLE, x -> x.putIn(407));
        refused("putIn(60007)", past, NOT_POSSIBLE, x -> x.putIn(60007));
        refused("takeOut(20)", past, NO_SUCH, x -> x.takeOut(20));
        refused("takeOut(60008)", past, NO_SUCH, x -> x.takeOut(60008));
        refused("shift(5, 0)", past, NO_SUCH, x -> x.shift(5, 0));
        refused("shift(0, 65536)", past, BAD_VALUE, x -> x.shift(0, 65536));
        refused("shift(0, -65536)", past, BAD_VALUE, x -> x.shift(0, -65536));
        refused("shift(0, -11)", past, NOT_POSSIBLE, x -> x.shift(0, -11));
        refused("shift(0, 5529)", past, NOT_POSSIBLE, x -> x.shift(0, 5529));
        refused("shift(4, 5529)", past, NOT_POSSIBLE, x -> x.shift(4, 5529));
        refused("shift(1, -27)", past, NOT_POSSIBLE, x -> x.shift(1, -27));
        refused("shift(4, -55000)", past, NOT_POSSIBLE, x -> x.shift(4, -55000));
        refused("shift(0, 0) of nothing", RiceBlocks::new, NO_SUCH, x -> x.shift(0, 0));
    }

    private static void changesOfAFullRow() {
        Past past = RefusedTest::full;
        refused("putIn(1)", past, TOO_MANY, x -> x.putIn(1));
        refused("putIn(65535)", past, TOO_MANY, x -> x.putIn(65535));
        refused("shift(0, 2536)", past, NOT_POSSIBLE, x -> x.shift(0, 2536));
        refused("shift(63, -1000)", past, NOT_POSSIBLE, x -> x.shift(63, -1000));
        refused("put of one", past, TOO_MANY, x -> x.put('1'));
        refused("put of eight", past, TOO_MANY, x -> x.put(packed(";b4;b5;b")));
    }

    private static void texts() {
        for (Past past : List.<Past>of(RiceBlocks::new, RefusedTest::lived, RefusedTest::full)) {
            refused("put(0)", past, BAD_VALUE, x -> x.put(0));
            refused("put(32)", past, BAD_VALUE, x -> x.put(32));
            refused("put(127)", past, BAD_VALUE, x -> x.put(127));
            refused("put(-1)", past, BAD_VALUE, x -> x.put(-1));
            refused("put(\"+1\" and 32)", past, BAD_VALUE, x -> x.put(packed("+1 ")));
            refused("put(32 and \"+1\")", past, BAD_VALUE, x -> x.put(packed(" +1")));
            refused("put(\"1\" above zeros)", past, BAD_VALUE, x -> x.put((long) '1' << 8));
            refused("put with a gap", past, BAD_VALUE, x -> x.put((long) '1' << 16 | '1'));
            refused("put with the highest bit", past, BAD_VALUE, x -> x.put(1L << 63 | '1'));
        }
        refused("carryOut() of an empty pad", RiceBlocks::new, BAD_TEXT, RiceBlocks::carryOut);
        refused("carryOut() of an empty pad", RefusedTest::undone, BAD_TEXT, RiceBlocks::carryOut);
        refused("carryOut() of a faulty pad", RefusedTest::lived, BAD_TEXT, RiceBlocks::carryOut);
    }

    private static void slotsAndUndo() {
        for (Past past : List.<Past>of(RiceBlocks::new, RefusedTest::lived, RefusedTest::full, RefusedTest::undone)) {
            refused("save(-1)", past, BAD_VALUE, x -> x.save(-1));
            refused("save(2)", past, BAD_VALUE, x -> x.save(2));
            refused("restore(-1)", past, BAD_VALUE, x -> x.restore(-1));
            refused("restore(2)", past, BAD_VALUE, x -> x.restore(2));
        }
        refused("restore(1)", RefusedTest::lived, NOT_POSSIBLE, x -> x.restore(1));
        refused("restore(0) of a new object", RiceBlocks::new, NOT_POSSIBLE, x -> x.restore(0));
        refused("restore(0)", RefusedTest::undone, NOT_POSSIBLE, x -> x.restore(0));
        refused("undo() of a new object", RiceBlocks::new, NOT_POSSIBLE, RiceBlocks::undo);
        Past usedUp = () -> {
            RiceBlocks x = undone();
            x.undo();
            return x;
        };
        refused("undo() of what is used up", usedUp, NOT_POSSIBLE, RiceBlocks::undo);
    }

    private static void askedForWhatIsNotThere() {
        for (Past past : List.<Past>of(RiceBlocks::new, RefusedTest::lived, RefusedTest::full, RefusedTest::undone)) {
            for (int place : new int[] {-1, 64, Integer.MIN_VALUE, Integer.MAX_VALUE}) {
                refused("gap(" + place + ", 0)", past, NO_SUCH, x -> x.gap(place, 0));
                refused("block(" + place + ", 0)", past, NO_SUCH, x -> x.block(place, 0));
                refused("at(" + place + ", 0)", past, NO_SUCH, x -> x.at(place, 0));
                refused("cost(" + place + ", 0)", past, NO_SUCH, x -> x.cost(place, 0));
            }
            for (int place : new int[] {-1, 5000, Integer.MIN_VALUE, Integer.MAX_VALUE}) {
                refused("bit(" + place + ")", past, NO_SUCH, x -> x.bit(place));
                refused("bits(" + place + ")", past, -1, x -> x.bits(place));
            }
        }
    }

    private static void askedForWhatIsNoQuestion() {
        for (Past past : List.<Past>of(RefusedTest::lived, RefusedTest::full, RefusedTest::undone)) {
            for (int what : new int[] {-1, 16, Integer.MIN_VALUE, Integer.MAX_VALUE}) {
                refused("gap(0, " + what + ")", past, BAD_VALUE, x -> x.gap(0, what));
                refused("block(0, " + what + ")", past, BAD_VALUE, x -> x.block(0, what));
                refused("at(0, " + what + ")", past, BAD_VALUE, x -> x.at(0, what));
                refused("cost(0, " + what + ")", past, BAD_VALUE, x -> x.cost(0, what));
                refused("find(0, " + what + ")", past, BAD_VALUE, x -> x.find(0, what));
                refused("count(" + what + ")", past, BAD_VALUE, x -> x.count(what));
                refused("best(" + what + ")", past, BAD_VALUE, x -> x.best(what));
                refused("with(" + what + ", 4)", past, BAD_VALUE, x -> x.with(what, 4));
            }
            refused("find(-1, 0)", past, BAD_VALUE, x -> x.find(-1, 0));
            refused("find(65536, 0)", past, BAD_VALUE, x -> x.find(65536, 0));
            refused("with(BLOCK, 0)", past, BAD_VALUE, x -> x.with(BLOCK, 0));
            refused("with(BLOCK, 17)", past, BAD_VALUE, x -> x.with(BLOCK, 17));
            refused("with(ONES, 0)", past, BAD_VALUE, x -> x.with(ONES, 0));
            refused("with(ONES, 31)", past, BAD_VALUE, x -> x.with(ONES, 31));
        }
    }

    // ---- calls to which more than one error applies

    private static void severalErrors() {
        refused("putIn(65536) into a full row", RefusedTest::full, BAD_VALUE, x -> x.putIn(65536));
        refused("putIn(-1) into a full row", RefusedTest::full, BAD_VALUE, x -> x.putIn(-1));
        refused("putIn(0), which is in a full row", RefusedTest::full, TOO_MANY, x -> x.putIn(0));
        refused("takeOut(65536), which is not there", RefusedTest::lived, BAD_VALUE, x -> x.takeOut(65536));
        refused("shift(9, 65536)", RefusedTest::lived, NO_SUCH, x -> x.shift(9, 65536));
        refused("shift(-1, -65536)", RefusedTest::lived, NO_SUCH, x -> x.shift(-1, -65536));
        refused("shift(0, max), which is too far", RefusedTest::lived, BAD_VALUE, x -> x.shift(0, Integer.MAX_VALUE));
        refused("shift(1, min), which is too far", RefusedTest::lived, BAD_VALUE, x -> x.shift(1, Integer.MIN_VALUE));
        refused("gap(64, 5)", RefusedTest::full, NO_SUCH, x -> x.gap(64, 5));
        refused("block(16, 7)", RefusedTest::full, NO_SUCH, x -> x.block(16, 7));
        refused("at(64, 2)", RefusedTest::full, NO_SUCH, x -> x.at(64, 2));
        refused("cost(16, 16)", RefusedTest::full, NO_SUCH, x -> x.cost(16, 16));
        refused("put(0) on a full pad", RefusedTest::full, BAD_VALUE, x -> x.put(0));
        refused("put(32) on a full pad", RefusedTest::full, BAD_VALUE, x -> x.put(32));
        refused("put with a gap on a full pad", RefusedTest::full, BAD_VALUE, x -> x.put((long) '1' << 16 | '1'));
        refused("restore(2) with nothing saved", RiceBlocks::new, BAD_VALUE, x -> x.restore(2));
        refused("find(7, 4) without numbers", RiceBlocks::new, BAD_VALUE, x -> x.find(7, 4));
        refused("find(65536, 2) without numbers", RiceBlocks::new, BAD_VALUE, x -> x.find(65536, 2));
    }

    // ---- "questions; nothing changes", and what is asked of what there is

    private static void questions() {
        Map<String, Call> questions = new LinkedHashMap<>();
        for (int what = 0; what < 10; what++) {
            int asked = what;
            questions.put("gap(1, " + what + ")", x -> x.gap(1, asked));
            questions.put("block(1, " + what + ")", x -> x.block(1, asked));
            questions.put("count(" + what + ")", x -> x.count(asked));
            questions.put("at(1, " + what + ")", x -> x.at(1, asked));
            questions.put("find(5000, " + what + ")", x -> x.find(5000, asked));
            questions.put("cost(1, " + what + ")", x -> x.cost(1, asked));
            questions.put("with(BLOCK, " + what + ")", x -> x.with(BLOCK, asked));
            questions.put("with(ONES, " + what + ")", x -> x.with(ONES, asked));
            questions.put("best(" + what + ")", x -> x.best(asked));
        }
        questions.put("bit(17)", x -> x.bit(17));
        questions.put("bits(17)", x -> x.bits(17));
        questions.put("check()", RiceBlocks::check);
        questions.put("fault()", RiceBlocks::fault);
        for (Past past : List.<Past>of(RiceBlocks::new, RefusedTest::lived, RefusedTest::full, RefusedTest::undone)) {
            for (Map.Entry<String, Call> question : questions.entrySet()) {
                RiceBlocks x = past.made();
                long first = question.getValue().on(x);
                due(question.getKey() + ", asked again,", question.getValue().on(x), first);
                unchanged(question.getKey(), x, past.made());
            }
        }
    }
}
