import java.util.ArrayDeque;
import java.util.ArrayList;
import java.util.Deque;
import java.util.List;
import java.util.Random;
import java.util.TreeSet;
import java.util.regex.Pattern;

/** Long runs of calls with fixed seeds, each answer compared with that of a slow model that holds its bits in texts. */
public final class ModelTest {
    private static final int RUNS = 200;
    private static final int CALLS = 512;
    // A step with all questions asks 64 places, 42 words of the stream and some 20 more.
    private static final int CALLS_OF_A_STEP = 130;
    private static int wrong = 0;

    public static void main(String[] args) {
        for (int run = 0; run < RUNS && wrong < 20; run++) {
            new Run(run).go();
        }
        System.out.println(wrong == 0 ? "the model agrees" : wrong + " answers are not the model's");
        if (wrong != 0) {
            System.exit(1);
        }
    }

    /** One object and its model. */
    private static final class Run {
        private final int seed;
        private final Random random;
        private final RiceBlocks object = new RiceBlocks();
        private final Model model = new Model();
        private final int spread;
        private final boolean tidy;
        private int calls = 0;

        Run(int seed) {
            this.seed = seed;
            random = new Random(seed);
            spread = new int[] {70, 300, 3000, 65536}[seed % 4];
            tidy = seed % 3 != 0;
        }

        void go() {
            // A row that is nearly full takes most of the promised calls, so that some runs begin with it.
            for (int i = 0; i < 62 && seed % 5 == 1; i++) {
                int number = any(0, spread - 1);
                due(calls, "putIn(" + number + ")", object.putIn(number), model.putIn(number));
            }
            while (calls + CALLS_OF_A_STEP <= CALLS && wrong < 20) {
                step(calls);
            }
        }

        private void due(int call, String text, long got, long want) {
            calls++;
            if (got != want) {
                wrong++;
                System.out.println("seed " + seed + ", call " + call + ": " + text + " answered " + got + ", the model " + want);
            }
        }

        private int any(int from, int to) {
            return from + random.nextInt(to - from + 1);
        }

        private int wild(int from, int to) {
            int[] odd = {from - 1, to + 1, Integer.MIN_VALUE, Integer.MAX_VALUE, -1, 0};
            return random.nextInt(14) == 0 ? odd[random.nextInt(odd.length)] : any(from, to);
        }

        private int number() {
            if (!model.numbers.isEmpty() && random.nextInt(3) == 0) {
                List<Integer> all = new ArrayList<>(model.numbers);
                return all.get(random.nextInt(all.size())) + any(-1, 1);
            }
            return random.nextInt(9) == 0 ? wild(0, 65535) : any(0, spread - 1);
        }

        private int place() {
            return wild(0, Math.max(0, model.numbers.size() - 1));
        }

        private void step(int call) {
            int kind = any(0, 99);
            if (kind < 30) {
                int n = number();
                due(call, "putIn(" + n + ")", object.putIn(n), model.putIn(n));
            } else if (kind < (tidy ? 33 : 45)) {
                int n = number();
                due(call, "takeOut(" + n + ")", object.takeOut(n), model.takeOut(n));
            } else if (kind < 48) {
                change(call);
            } else if (kind < 60) {
                text(call);
            } else {
                ask(call);
            }
            if (random.nextInt(24) == 0) {
                askAll(call);
            }
        }

        private void change(int call) {
            int which = any(0, 5);
            if (which == 0) {
                int setting = wild(0, 1);
                int value = wild(1, setting == 0 ? 16 : 30);
                due(call, "set(" + setting + ", " + value + ")", object.set(setting, value), model.set(setting, value));
            } else if (which == 1) {
                int place = place();
                int by = random.nextBoolean() ? any(-5, 5) : wild(-65535, 65535);
                due(call, "shift(" + place + ", " + by + ")", object.shift(place, by), model.shift(place, by));
            } else if (which == 2) {
                due(call, "undo()", object.undo(), model.undo());
            } else if (which == 3) {
                int slot = wild(0, 1);
                due(call, "save(" + slot + ")", object.save(slot), model.save(slot));
            } else if (which == 4) {
                int slot = wild(0, 1);
                due(call, "restore(" + slot + ")", object.restore(slot), model.restore(slot));
            } else {
                due(call, "check()", object.check(), 1);
            }
        }

        private void text(int call) {
            int which = any(0, seed % 5 == 0 ? 60 : 9);
            if (which != 5 && (which < 5 || which > 9)) {
                String piece = piece();
                long packed = 0;
                for (char c : piece.toCharArray()) {
                    packed = packed << 8 | c;
                }
                if (random.nextInt(12) == 0) {
                    packed ^= 1L << random.nextInt(64);
                }
                due(call, "put(" + packed + "L)", object.put(packed), model.put(packed));
            } else if (which == 5 && random.nextBoolean()) {
                due(call, "wipe()", object.wipe(), model.wipe());
            } else {
                due(call, "fault()", object.fault(), model.fault());
                due(call, "carryOut()", object.carryOut(), model.carryOut());
                if (model.fault() != -6 && random.nextInt(3) == 0) {
                    due(call, "wipe()", object.wipe(), model.wipe());
                }
            }
        }

        private String piece() {
            if (random.nextInt(10) == 0) {
                return "" + "+-bo,;0659x".charAt(any(0, 10));
            }
            String ahead = model.pad.length() > 0 && !";,+-bo".contains(model.pad.substring(model.pad.length() - 1)) ? ";" : "";
            String order;
            switch (any(0, 4)) {
                case 0:
                    order = "b" + any(0, 17);
                    break;
                case 1:
                    order = "o" + any(0, 31);
                    break;
                case 2:
                    order = "-" + number();
                    break;
                case 3:
                    order = "+" + any(0, 99) + "," + any(0, 99);
                    break;
                default:
                    order = "+" + number();
            }
            String whole = ahead + order;
            return whole.substring(0, Math.min(8, whole.length()));
        }

        private void ask(int call) {
            int which = any(0, 9);
            int place = place();
            int block = wild(0, Math.max(0, model.blocks().size() - 1));
            if (which == 0) {
                int what = wild(0, 4);
                due(call, "gap(" + place + ", " + what + ")", object.gap(place, what), model.gap(place, what));
            } else if (which == 1) {
                int what = wild(0, 6);
                due(call, "block(" + block + ", " + what + ")", object.block(block, what), model.block(block, what));
            } else if (which == 2) {
                int at = wild(0, Math.max(0, model.stream().length() - 1));
                due(call, "bit(" + at + ")", object.bit(at), model.bit(at));
                due(call, "bits(" + at + ")", object.bits(at), model.bits(at));
            } else if (which == 3) {
                int what = wild(0, 9);
                due(call, "count(" + what + ")", object.count(what), model.count(what));
            } else if (which == 4) {
                int what = wild(0, 1);
                due(call, "at(" + place + ", " + what + ")", object.at(place, what), model.at(place, what));
            } else if (which == 5 || which == 6) {
                int number = number();
                int what = wild(0, 3);
                due(call, "find(" + number + ", " + what + ")", object.find(number, what), model.find(number, what));
            } else if (which == 7) {
                int exponent = wild(0, 15);
                due(call, "cost(" + block + ", " + exponent + ")", object.cost(block, exponent), model.cost(block, exponent));
            } else if (which == 8) {
                int setting = wild(0, 1);
                int value = wild(1, setting == 0 ? 16 : 30);
                due(call, "with(" + setting + ", " + value + ")", object.with(setting, value), model.with(setting, value));
            } else {
                int what = wild(0, 1);
                due(call, "best(" + what + ")", object.best(what), model.best(what));
            }
        }

        private void askAll(int call) {
            due(call, "check()", object.check(), 1);
            for (int what = 0; what < 10; what++) {
                due(call, "count(" + what + ")", object.count(what), model.count(what));
            }
            for (int place = 0; place < model.numbers.size(); place++) {
                due(call, "at(" + place + ", 0)", object.at(place, 0), model.at(place, 0));
            }
            for (int at = 0; at < model.stream().length(); at += 32) {
                due(call, "bits(" + at + ")", object.bits(at), model.bits(at));
            }
            due(call, "fault()", object.fault(), model.fault());
        }
    }

    /** What a change can touch. */
    private static final class State {
        private final TreeSet<Integer> numbers;
        private final int block;
        private final int ones;

        State(Model model) {
            numbers = new TreeSet<>(model.numbers);
            block = model.block;
            ones = model.ones;
        }
    }

    /** The document's words, one after the other, without a thought of how long they take. */
    private static final class Model {
        private static final String NUMBER =
            "(?:0|[1-9]\\d{0,3}|[1-5]\\d{4}|6[0-4]\\d{3}|65[0-4]\\d{2}|655[0-2]\\d|6553[0-5])";
        private static final String ORDER = "(?:\\+" + NUMBER + "(?:," + NUMBER + ")*|[-bo]" + NUMBER + ")";
        private static final Pattern TEXT = Pattern.compile(ORDER + "(?:;" + ORDER + ")*");
        private static final Pattern BEGINNING =
            Pattern.compile("(?:" + ORDER + ";)*(?:\\+(?:" + NUMBER + ",)*(?:" + NUMBER + ")?|[-bo](?:" + NUMBER + ")?)?");

        private TreeSet<Integer> numbers = new TreeSet<>();
        private int block = 4;
        private int ones = 8;
        private String pad = "";
        private final Deque<State> history = new ArrayDeque<>();
        private final State[] slots = new State[2];
        private String streamKept = null;
        private String streamKey = "";

        private void bring(State state) {
            numbers = new TreeSet<>(state.numbers);
            block = state.block;
            ones = state.ones;
        }

        private int record(State before, int answer) {
            if (answer >= 0) {
                history.addLast(before);
                if (history.size() > 6) {
                    history.removeFirst();
                }
            }
            return answer;
        }

        private static boolean setting(int setting, int value) {
            return setting == 0 && value >= 1 && value <= 16 || setting == 1 && value >= 1 && value <= 30;
        }

        private static boolean number(int number) {
            return number >= 0 && number <= 65535;
        }

        int doSet(int setting, int value) {
            if (!setting(setting, value)) {
                return -2;
            }
            int before = setting == 0 ? block : ones;
            if (setting == 0) {
                block = value;
            } else {
                ones = value;
            }
            return before;
        }

        int doPutIn(int number) {
            if (!number(number)) {
                return -2;
            }
            if (numbers.size() == 64) {
                return -4;
            }
            return numbers.add(number) ? numbers.headSet(number).size() : -5;
        }

        int doTakeOut(int number) {
            if (!number(number)) {
                return -2;
            }
            return numbers.remove(number) ? numbers.headSet(number).size() : -1;
        }

        int set(int setting, int value) {
            return record(new State(this), doSet(setting, value));
        }

        int putIn(int number) {
            return record(new State(this), doPutIn(number));
        }

        int takeOut(int number) {
            return record(new State(this), doTakeOut(number));
        }

        int shift(int place, int by) {
            List<Integer> all = new ArrayList<>(numbers);
            if (place < 0 || place >= all.size()) {
                return -1;
            }
            if (Math.abs((long) by) > 65535) {
                return -2;
            }
            for (int i = place; i < all.size(); i++) {
                int moved = all.get(i) + by;
                if (!number(moved) || i > 0 && moved <= all.get(i - 1)) {
                    return -5;
                }
                all.set(i, moved);
            }
            State before = new State(this);
            numbers = new TreeSet<>(all);
            return record(before, stream().length());
        }

        private List<Integer> gaps() {
            List<Integer> gaps = new ArrayList<>();
            int last = -1;
            for (int number : numbers) {
                gaps.add(number - last - 1);
                last = number;
            }
            return gaps;
        }

        List<List<Integer>> blocks() {
            return blocks(block);
        }

        private List<List<Integer>> blocks(int size) {
            List<Integer> gaps = gaps();
            List<List<Integer>> blocks = new ArrayList<>();
            for (int i = 0; i < gaps.size(); i += size) {
                blocks.add(gaps.subList(i, Math.min(gaps.size(), i + size)));
            }
            return blocks;
        }

        private static String binary(int value, int width) {
            StringBuilder text = new StringBuilder();
            for (int i = 0; i < width; i++) {
                text.insert(0, value % 2);
                value /= 2;
            }
            return text.toString();
        }

        private static String code(int gap, int exponent, int ones) {
            int q = gap / (int) Math.pow(2, exponent);
            return q < ones ? "1".repeat(q) + "0" + binary(gap, exponent) : "1".repeat(ones) + binary(gap, 16);
        }

        private static String coded(List<Integer> gaps, int exponent, int ones) {
            StringBuilder text = new StringBuilder(binary(exponent, 4));
            for (int gap : gaps) {
                text.append(code(gap, exponent, ones));
            }
            return text.toString();
        }

        private static int exponent(List<Integer> gaps, int ones) {
            int best = 0;
            for (int e = 15; e >= 0; e--) {
                if (coded(gaps, e, ones).length() <= coded(gaps, best, ones).length()) {
                    best = e;
                }
            }
            return best;
        }

        private String stream(int size, int ones) {
            StringBuilder text = new StringBuilder();
            for (List<Integer> gaps : blocks(size)) {
                text.append(coded(gaps, exponent(gaps, ones), ones));
            }
            return text.toString();
        }

        String stream() {
            String key = numbers + "/" + block + "/" + ones;
            if (!key.equals(streamKey)) {
                streamKey = key;
                streamKept = stream(block, ones);
            }
            return streamKept == null ? "" : streamKept;
        }

        private int skip(int which) {
            int skip = 0;
            for (int i = 0; i < which; i++) {
                skip += coded(blocks().get(i), exponent(blocks().get(i), ones), ones).length();
            }
            return skip;
        }

        private int base(int which) {
            return which == 0 ? -1 : new ArrayList<>(numbers).get(which * block - 1);
        }

        int gap(int place, int what) {
            if (place < 0 || place >= numbers.size()) {
                return -1;
            }
            int gap = gaps().get(place);
            int exponent = exponent(blocks().get(place / block), ones);
            switch (what) {
                case 0:
                    return gap;
                case 1:
                    return place / block;
                case 2:
                    return code(gap, exponent, ones).length();
                case 3:
                    return gap / (int) Math.pow(2, exponent) >= ones ? 1 : 0;
                case 4:
                    return skip(place / block)
                        + coded(blocks().get(place / block).subList(0, place % block), exponent, ones).length();
                default:
                    return -2;
            }
        }

        private int escapes(int which) {
            int escapes = 0;
            int exponent = exponent(blocks().get(which), ones);
            for (int gap : blocks().get(which)) {
                escapes += gap / (int) Math.pow(2, exponent) >= ones ? 1 : 0;
            }
            return escapes;
        }

        int block(int which, int what) {
            if (which < 0 || which >= blocks().size()) {
                return -1;
            }
            List<Integer> gaps = blocks().get(which);
            switch (what) {
                case 0:
                    return exponent(gaps, ones);
                case 1:
                    return gaps.size();
                case 2:
                    return coded(gaps, exponent(gaps, ones), ones).length();
                case 3:
                    return skip(which);
                case 4:
                    return base(which) + 1;
                case 5:
                    return escapes(which);
                case 6:
                    return gaps.stream().mapToInt(Integer::intValue).max().getAsInt();
                default:
                    return -2;
            }
        }

        int bit(int place) {
            return place < 0 || place >= stream().length() ? -1 : stream().charAt(place) - '0';
        }

        long bits(int place) {
            if (place < 0 || place >= stream().length()) {
                return -1;
            }
            return Long.parseLong((stream() + "0".repeat(32)).substring(place, place + 32), 2);
        }

        int count(int what) {
            int escapes = 0;
            int exponent = -6;
            for (int i = 0; i < blocks().size(); i++) {
                escapes += escapes(i);
                exponent = Math.max(exponent, exponent(blocks().get(i), ones));
            }
            int[] counts = {numbers.size(), blocks().size(), stream().length(), escapes, 16 * numbers.size(), exponent,
                block, ones, pad.length(), history.size()};
            return what < 0 || what > 9 ? -2 : counts[what];
        }

        int at(int place, int what) {
            if (place < 0 || place >= numbers.size()) {
                return -1;
            }
            if (what == 0) {
                return new ArrayList<>(numbers).get(place);
            }
            List<Integer> gaps = blocks().get(place / block);
            return what == 1 ? coded(gaps.subList(0, place % block + 1), exponent(gaps, ones), ones).length() : -2;
        }

        int find(int number, int what) {
            if (!number(number) || what < 0 || what > 3) {
                return -2;
            }
            if (what == 0) {
                return numbers.headSet(number).size();
            }
            if (what == 1) {
                return numbers.contains(number) ? 1 : 0;
            }
            int which = -6;
            for (int i = 0; i < blocks().size(); i++) {
                which = base(i) < number ? i : which;
            }
            if (what == 2 || which < 0) {
                return what == 2 ? which : 0;
            }
            int last = base(which);
            List<Integer> gaps = blocks().get(which);
            int read = 0;
            while (read < gaps.size() && last < number) {
                last += gaps.get(read) + 1;
                read++;
            }
            return coded(gaps.subList(0, read), exponent(gaps, ones), ones).length();
        }

        int cost(int which, int exponent) {
            if (which < 0 || which >= blocks().size()) {
                return -1;
            }
            return exponent < 0 || exponent > 15 ? -2 : coded(blocks().get(which), exponent, ones).length();
        }

        int with(int setting, int value) {
            if (!setting(setting, value)) {
                return -2;
            }
            return (setting == 0 ? stream(value, ones) : stream(block, value)).length();
        }

        int best(int what) {
            int best = 16;
            for (int size = 15; size >= 1 && (what == 0 || what == 1); size--) {
                best = stream(size, ones).length() < stream(best, ones).length() ? size : best;
            }
            return what == 0 ? best : what == 1 ? stream(best, ones).length() : -2;
        }

        int put(long characters) {
            String text = "";
            long rest = characters;
            while ((rest & 255) != 0) {
                text = (char) (rest & 255) + text;
                rest >>>= 8;
            }
            if (rest != 0 || text.isEmpty() || !text.chars().allMatch(c -> c >= 33 && c <= 126)) {
                return -2;
            }
            if (pad.length() + text.length() > 80) {
                return -4;
            }
            pad += text;
            return pad.length();
        }

        int wipe() {
            int length = pad.length();
            pad = "";
            return length;
        }

        int fault() {
            for (int i = 0; i < pad.length(); i++) {
                if (!BEGINNING.matcher(pad.substring(0, i + 1)).matches()) {
                    return i;
                }
            }
            return TEXT.matcher(pad).matches() ? -6 : pad.length();
        }

        int carryOut() {
            if (fault() != -6) {
                return -3;
            }
            State before = new State(this);
            int done = 0;
            for (String order : pad.split(";")) {
                int answer = 0;
                for (String number : order.substring(1).split(",")) {
                    if (answer >= 0) {
                        answer = one(order.charAt(0), Integer.parseInt(number));
                    }
                }
                if (answer < 0) {
                    break;
                }
                done++;
            }
            pad = "";
            return record(before, done);
        }

        private int one(char order, int number) {
            if (order == '+') {
                return doPutIn(number);
            }
            return order == '-' ? doTakeOut(number) : doSet(order == 'b' ? 0 : 1, number);
        }

        int undo() {
            if (history.isEmpty()) {
                return -5;
            }
            bring(history.removeLast());
            return history.size();
        }

        int save(int slot) {
            if (slot < 0 || slot > 1) {
                return -2;
            }
            slots[slot] = new State(this);
            return numbers.size();
        }

        int restore(int slot) {
            if (slot < 0 || slot > 1) {
                return -2;
            }
            if (slots[slot] == null) {
                return -5;
            }
            State before = new State(this);
            bring(slots[slot]);
            return record(before, numbers.size());
        }
    }
}
