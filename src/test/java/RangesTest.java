import java.util.regex.Matcher;
import java.util.regex.Pattern;

/** Whole ranges, value by value: short texts, numbers in texts, characters, gaps by each ONES, and numbers to find. */
public final class RangesTest {
    private static final int BAD_VALUE = -2, NONE = -6;
    private static final int BLOCK = 0, ONES = 1;
    private static final int PROMISED_CALLS = 512;
    private static final int GREATEST_NUMBER = 65535;
    private static final String NUMBER =
        "(0|[1-9]\\d{0,3}|[1-5]\\d{4}|6[0-4]\\d{3}|65[0-4]\\d{2}|655[0-2]\\d|6553[0-5])";
    private static final String ORDER = "(\\+" + NUMBER + "(," + NUMBER + ")*|[-bo]" + NUMBER + ")";
    private static final Pattern TEXT = Pattern.compile(ORDER + "(;" + ORDER + ")*");
    private static RiceBlocks x = new RiceBlocks();
    private static int calls = 0;
    private static int wrong = 0;

    public static void main(String[] args) {
        shortTexts("+-bo,;0169", 5);
        shortTexts("+b,;05", 7);
        numbersInTexts();
        charactersAtEachPlace();
        gapsByEachOnes();
        numbersToFind();
        System.out.println(wrong == 0 ? "all ranges hold" : wrong + " answers are wrong");
        if (wrong != 0) {
            System.exit(1);
        }
    }

    private static void due(String call, long got, long want) {
        if (got != want && ++wrong < 20) {
            System.out.println(call + " answered " + got + ", due is " + want);
        }
    }

    // Says that so many calls follow on x, and whether it had to be made anew, as nothing is promised behind call 512.
    private static boolean anewFor(int following) {
        boolean full = calls + following > PROMISED_CALLS;
        if (full) {
            x = new RiceBlocks();
            calls = 0;
        }
        calls += following;
        return full;
    }

    private static void startAnew() {
        x = new RiceBlocks();
        calls = 0;
    }

    // ---- promises 17 to 20

    private static void shortTexts(String alphabet, int longest) {
        int texts = 1;
        for (int length = 1; length <= longest; length++) {
            texts *= alphabet.length();
            for (int which = 0; which < texts; which++) {
                char[] text = new char[length];
                int rest = which;
                for (int i = length - 1; i >= 0; i--) {
                    text[i] = alphabet.charAt(rest % alphabet.length());
                    rest /= alphabet.length();
                }
                dueFault(new String(text));
            }
        }
    }

    private static void numbersInTexts() {
        for (int number = 0; number <= 700_000; number += number < 70_000 ? 1 : 97) {
            dueFault("+" + number);
            dueFault("-" + number + ";");
            dueFault("b0" + number);
        }
    }

    private static void dueFault(String text) {
        anewFor(3);
        due("put of " + text, x.put(packed(text)), text.length());
        due("fault() of " + text, x.fault(), faultOf(text));
        due("wipe() of " + text, x.wipe(), text.length());
    }

    // A character can stand at its place if what is read with it is a text, or would be one if more came.
    private static int faultOf(String text) {
        for (int end = 1; end <= text.length(); end++) {
            Matcher read = TEXT.matcher(text.substring(0, end));
            if (!read.matches() && !read.hitEnd()) {
                return end - 1;
            }
        }
        return TEXT.matcher(text).matches() ? NONE : text.length();
    }

    private static long packed(String text) {
        long packed = 0;
        for (char c : text.toCharArray()) {
            packed = packed << 8 | c;
        }
        return packed;
    }

    private static void charactersAtEachPlace() {
        for (int length = 1; length <= 8; length++) {
            for (int place = 0; place < length; place++) {
                for (int code = 0; code < 256; code++) {
                    dueCharacter(length, place, code);
                }
            }
        }
    }

    // With 0 as the first character the others stay; with 0 at any other place, something is above it.
    private static void dueCharacter(int length, int place, int code) {
        char[] text = "~!+9;o0b".substring(0, length).toCharArray();
        text[place] = (char) code;
        int left = place == 0 && code == 0 ? length - 1 : length;
        boolean stands = code >= 33 && code <= 126 || place == 0 && code == 0 && length > 1;
        String call = "put of " + length + " characters with " + code + " as character " + place;
        anewFor(3);
        due(call, x.put(packed(new String(text))), stands ? left : BAD_VALUE);
        due("count(8) after " + call, x.count(8), stands ? left : 0);
        x.wipe();
    }

    // ---- promises 5 to 9, 11 and 13: a row of one number has one block with one gap

    private static void gapsByEachOnes() {
        for (int ones = 1; ones <= 30; ones++) {
            startAnew();
            x.set(ONES, ones);
            x.putIn(0);
            calls = 8;
            dueSingle(0, ones);
            for (int number = 1; number <= GREATEST_NUMBER; number += number < 5000 || number > 64_500 ? 1 : 13) {
                if (anewFor(10)) {
                    x.set(ONES, ones);
                    x.putIn(number);
                    calls += 2;
                }
                int bits = x.shift(0, number - x.at(0, 0));
                due("shift(0, ..) to " + number + " with ONES " + ones, bits, x.count(2));
                dueSingle(number, ones);
            }
        }
    }

    private static void dueSingle(int number, int ones) {
        int exponent = exponentFor(number, ones);
        String code = code(number, exponent, ones);
        String call = " for " + number + " with ONES " + ones;
        due("block(0, 0)" + call, x.block(0, 0), exponent);
        due("block(0, 2)" + call, x.block(0, 2), 4 + code.length());
        due("gap(0, 3)" + call, x.gap(0, 3), number >> exponent < ones ? 0 : 1);
        due("at(0, 0)" + call, x.at(0, 0), number);
        due("at(0, 1)" + call, x.at(0, 1), 4 + code.length());
        long bits = Long.parseLong(Integer.toBinaryString(16 + exponent).substring(1) + code, 2);
        due("bits(0)" + call, x.bits(0), bits << 32 - 4 - code.length());
    }

    private static int exponentFor(int gap, int ones) {
        int best = 0;
        for (int e = 1; e < 16; e++) {
            best = codeLength(gap, e, ones) < codeLength(gap, best, ones) ? e : best;
        }
        return best;
    }

    private static int codeLength(int gap, int exponent, int ones) {
        int quotient = gap / (int) Math.pow(2, exponent);
        return quotient < ones ? quotient + 1 + exponent : ones + 16;
    }

    private static String code(int gap, int exponent, int ones) {
        int quotient = gap / (int) Math.pow(2, exponent);
        String sixteen = Integer.toBinaryString(65536 + gap).substring(1);
        return quotient < ones ? "1".repeat(quotient) + "0" + sixteen.substring(16 - exponent) : "1".repeat(ones) + sixteen;
    }

    // ---- promise 12

    private static void numbersToFind() {
        dueFound(4);
        dueFound(4, 3, 5, 6, 40, 1000);
        dueFound(1, 0, 1, 2, 30_000, 30_001, 65_534, 65_535);
        dueFound(3, 7, 8, 700, 9000, 9001, 9002, 20_000, 40_000, 60_000, 60_500);
        dueFound(16, 1, 3, 5, 7, 9, 11, 13, 15, 17, 19, 21, 23, 25, 27, 29, 31, 60_000);
    }

    private static void dueFound(int size, int... row) {
        calls = PROMISED_CALLS;
        for (int number = 0; number <= GREATEST_NUMBER; number++) {
            if (anewFor(5)) {
                x.set(BLOCK, size);
                for (int held : row) {
                    x.putIn(held);
                }
                calls += 1 + row.length;
            }
            dueNumber(number, size, row);
        }
        anewFor(1);
        due("find(65536, 0)", x.find(GREATEST_NUMBER + 1, 0), BAD_VALUE);
    }

    private static void dueNumber(int number, int size, int[] row) {
        int place = 0;
        while (place < row.length && row[place] < number) {
            place++;
        }
        // The last number ahead of the place is less, and is the base of the block if the block begins at the place.
        int block = row.length == 0 ? NONE : Math.min(place, row.length - 1) / size;
        boolean held = place < row.length && row[place] == number;
        due("find(" + number + ", 0)", x.find(number, 0), place);
        due("find(" + number + ", 1)", x.find(number, 1), held ? 1 : 0);
        due("find(" + number + ", 2)", x.find(number, 2), block);
        due("find(" + number + ", 3)", x.find(number, 3), row.length == 0 ? 0 : x.at(Math.min(place, row.length - 1), 1));
    }
}
