import java.io.IOException;
import java.lang.annotation.Retention;
import java.lang.annotation.RetentionPolicy;
import java.lang.reflect.Method;
import java.nio.file.Files;
import java.nio.file.Path;
import java.util.ArrayList;
import java.util.List;
import java.util.regex.Matcher;
import java.util.regex.Pattern;

/** Each sentence of the document that names a boundary case has a test of its own here, which bears its words. */
public final class EdgesTest {
    private static final int NO_SUCH = -1, BAD_VALUE = -2, BAD_TEXT = -3, TOO_MANY = -4, NOT_POSSIBLE = -5, NONE = -6;
    private static final int BLOCK = 0, ONES = 1;
    private static final int MIN = Integer.MIN_VALUE, MAX = Integer.MAX_VALUE;
    private static final int LAST_PROMISE = 23;
    private static final Path DOCUMENT = Path.of("../shared/DOC.md");
    private static int wrong = 0;
    private static String running = "";

    /** The promise that a test is for, 0 for what stands ahead of promise 1, and the sentence, or the part of it. */
    @Retention(RetentionPolicy.RUNTIME)
    private @interface Says {
        int promise();

        String words();
    }

    public static void main(String[] args) throws ReflectiveOperationException, IOException {
        List<Says> said = new ArrayList<>();
        for (Method method : EdgesTest.class.getDeclaredMethods()) {
            Says says = method.getAnnotation(Says.class);
            if (says != null) {
                said.add(says);
                running = "promise " + says.promise() + ", " + says.words() + " (" + method.getName() + ")";
                method.invoke(null);
            }
        }
        compareWithDocument(said);
        System.out.println(wrong == 0 ? said.size() + " sentences hold" : wrong + " answers are wrong");
        if (wrong != 0) {
            System.exit(1);
        }
    }

    // ---- what the tests are made of

    private static void due(String call, long got, long want) {
        if (got != want) {
            wrong++;
            System.out.println(running + ": " + call + " answered " + got + ", due is " + want);
        }
    }

    private static RiceBlocks holding(int... numbers) {
        RiceBlocks x = new RiceBlocks();
        for (int number : numbers) {
            x.putIn(number);
        }
        return x;
    }

    private static RiceBlocks counting(int from, int many) {
        RiceBlocks x = new RiceBlocks();
        for (int i = 0; i < many; i++) {
            x.putIn(from + i);
        }
        return x;
    }

    // Gaps 3, 1, 0, 33 with exponent 3 in 24 bits, and 959 with exponent 9 in 15.
    private static RiceBlocks example() {
        return holding(3, 5, 6, 40, 1000);
    }

    // Bits: 4 for exponent 0, 15 zeros for the gaps 0, 30 ones, and 65520, which is twelve ones and four zeros.
    private static RiceBlocks manyOnes() {
        RiceBlocks x = counting(0, 15);
        x.set(BLOCK, 16);
        x.set(ONES, 30);
        x.putIn(65535);
        return x;
    }

    private static long packed(String text) {
        long packed = 0;
        for (char c : text.toCharArray()) {
            packed = packed << 8 | c;
        }
        return packed;
    }

    private static void write(RiceBlocks x, String text) {
        for (int i = 0; i < text.length(); i += 8) {
            x.put(packed(text.substring(i, Math.min(text.length(), i + 8))));
        }
    }

    private static int carried(RiceBlocks x, String text) {
        write(x, text);
        return x.carryOut();
    }

    private static void dueFault(String text, int want) {
        RiceBlocks x = new RiceBlocks();
        write(x, text);
        due("count(8) with " + text, x.count(8), text.length());
        due("fault() of " + text, x.fault(), want);
        due("whether carryOut() of " + text + " refuses it", x.carryOut() == BAD_TEXT ? 1 : 0, want == NONE ? 0 : 1);
    }

    private static void dueRow(RiceBlocks x, int... numbers) {
        due("count(0)", x.count(0), numbers.length);
        for (int i = 0; i < numbers.length; i++) {
            due("at(" + i + ", 0)", x.at(i, 0), numbers[i]);
        }
    }

    private static void dueStream(RiceBlocks x, String... pieces) {
        String bits = String.join("", pieces);
        due("count(2)", x.count(2), bits.length());
        for (int i = 0; i < bits.length(); i++) {
            due("bit(" + i + ")", x.bit(i), bits.charAt(i) - '0');
        }
        due("bit(" + bits.length() + ")", x.bit(bits.length()), NO_SUCH);
    }

    // ---- the document's words

    private static void compareWithDocument(List<Says> said) throws IOException {
        if (!Files.isReadable(DOCUMENT)) {
            System.out.println("the document is not here, so that its words were not compared");
            return;
        }
        String[] sections = Files.readString(DOCUMENT).split("\n## (?=Promise \\d|Not promised)");
        running = "the document's words";
        due("sections", sections.length, LAST_PROMISE + 2);
        for (Says says : said) {
            boolean stands = flat(sections[says.promise()]).contains(flat(says.words()));
            due("whether promise " + says.promise() + " says: " + says.words(), stands ? 1 : 0, 1);
        }
        for (int promise = 1; promise <= LAST_PROMISE; promise++) {
            everyErrorHasATest(promise, flat(sections[promise]), said);
        }
    }

    private static String flat(String text) {
        return text.replaceAll("\\s+", " ").trim();
    }

    private static void everyErrorHasATest(int promise, String section, List<Says> said) {
        Matcher error = Pattern.compile("(NO_SUCH|BAD_VALUE|BAD_TEXT|TOO_MANY|NOT_POSSIBLE|NONE|-1) if [^;.(]*").matcher(section);
        while (error.find()) {
            for (String words : error.group().trim().split(", (or )?")) {
                boolean tested = said.stream().anyMatch(s -> s.promise() == promise && s.words().contains(words));
                due("whether promise " + promise + " has a test of: " + words, tested ? 1 : 0, 1);
            }
        }
    }

    // ---- ahead of promise 1

    @Says(promise = 0, words = "An object is used for at most 512 calls after it has been made")
    private static void theLastPromisedCallIsAnswered() {
        RiceBlocks x = new RiceBlocks();
        for (int call = 1; call <= 508; call++) {
            due("call " + call, call % 2 == 1 ? x.putIn(9) : x.takeOut(9), 0);
        }
        due("putIn(7)", x.putIn(7), 0);
        due("at(0, 0)", x.at(0, 0), 7);
        due("undo()", x.undo(), 5);
        due("count(0) as call 512", x.count(0), 0);
    }

    @Says(promise = 0, words = "NONE (-6) is not an error; it is returned only if no error applies.")
    private static void anErrorGoesAheadOfNone() {
        RiceBlocks x = new RiceBlocks();
        due("find(7, 2)", x.find(7, 2), NONE);
        due("find(65536, 2)", x.find(65536, 2), BAD_VALUE);
        due("find(-1, 2)", x.find(-1, 2), BAD_VALUE);
        due("count(5)", x.count(5), NONE);
        due("fault()", x.fault(), 0);
    }

    @Says(promise = 0, words = "Everything is numbered from 0.")
    private static void placesBlocksAndBitsBeginAtZero() {
        RiceBlocks x = new RiceBlocks();
        due("putIn(1)", x.putIn(1), 0);
        due("at(0, 0)", x.at(0, 0), 1);
        due("at(1, 0)", x.at(1, 0), NO_SUCH);
        due("gap(0, 1)", x.gap(0, 1), 0);
        due("block(0, 1)", x.block(0, 1), 1);
        due("block(1, 1)", x.block(1, 1), NO_SUCH);
        dueStream(x, "0000", "10");
    }

    @Says(promise = 0, words = "Divisions are rounded down.")
    private static void quotientsAreRoundedDown() {
        // 8, 5, 4, 4 and 5 bits with the exponents 0 to 4: 7 divided by 4 is 1.
        dueStream(holding(7), "0010", "10", "11");
        RiceBlocks x = counting(0, 9);
        due("gap(3, 1)", x.gap(3, 1), 0);
        due("gap(4, 1)", x.gap(4, 1), 1);
        due("gap(7, 1)", x.gap(7, 1), 1);
        due("gap(8, 1)", x.gap(8, 1), 2);
    }

    @Says(promise = 0, words = "BLOCK (1 to 16; 4)")
    private static void blockBeginsWithFourAndEndsWithSixteen() {
        RiceBlocks x = new RiceBlocks();
        due("count(6)", x.count(6), 4);
        due("set(BLOCK, 1)", x.set(BLOCK, 1), 4);
        due("set(BLOCK, 16)", x.set(BLOCK, 16), 1);
        due("set(BLOCK, 0)", x.set(BLOCK, 0), BAD_VALUE);
        due("set(BLOCK, 17)", x.set(BLOCK, 17), BAD_VALUE);
        due("count(6)", x.count(6), 16);
        due("count(7)", x.count(7), 8);
    }

    @Says(promise = 0, words = "ONES (1 to 30; 8)")
    private static void onesBeginWithEightAndEndWithThirty() {
        RiceBlocks x = new RiceBlocks();
        due("count(7)", x.count(7), 8);
        due("set(ONES, 1)", x.set(ONES, 1), 8);
        due("set(ONES, 30)", x.set(ONES, 30), 1);
        due("set(ONES, 0)", x.set(ONES, 0), BAD_VALUE);
        due("set(ONES, 31)", x.set(ONES, 31), BAD_VALUE);
        due("count(7)", x.count(7), 30);
        due("count(6)", x.count(6), 4);
    }

    @Says(promise = 0, words = "The row has up to 64 numbers, 0 to 65535, in ascending order, all unlike (at first there are none).")
    private static void aRowHoldsSixtyFourAscendingNumbers() {
        RiceBlocks x = new RiceBlocks();
        due("count(0) at first", x.count(0), 0);
        for (int i = 0; i < 62; i++) {
            due("putIn(" + (62 - i) + ")", x.putIn(62 - i), 0);
        }
        due("putIn(65535)", x.putIn(65535), 62);
        due("putIn(0)", x.putIn(0), 0);
        due("putIn(63)", x.putIn(63), TOO_MANY);
        due("count(0)", x.count(0), 64);
        for (int i = 0; i < 63; i++) {
            due("at(" + i + ", 0)", x.at(i, 0), i);
        }
        due("at(63, 0)", x.at(63, 0), 65535);
    }

    @Says(promise = 0, words = "The gap of the first number is the number itself")
    private static void theFirstGapIsItsNumber() {
        due("gap(0, 0) of 0", holding(0).gap(0, 0), 0);
        due("gap(0, 0) of 1", holding(1).gap(0, 0), 1);
        due("gap(0, 0) of 65535", holding(65535).gap(0, 0), 65535);
    }

    @Says(promise = 0, words = "that of each other one is the number less the one ahead of it less 1")
    private static void otherGapsAreOneLessThanTheDifference() {
        RiceBlocks x = holding(0, 1, 3, 65535);
        due("gap(1, 0)", x.gap(1, 0), 0);
        due("gap(2, 0)", x.gap(2, 0), 1);
        due("gap(3, 0)", x.gap(3, 0), 65531);
        due("gap(1, 0) of 0, 65535", holding(0, 65535).gap(1, 0), 65534);
    }

    @Says(promise = 0, words = "The gaps are cut into blocks of BLOCK gaps each; the last block can have fewer.")
    private static void theLastBlockCanHaveFewerGaps() {
        RiceBlocks x = new RiceBlocks();
        int[] blocks = {1, 1, 1, 1, 2, 2, 2, 2, 3};
        int[] gapsInTheLast = {1, 2, 3, 4, 1, 2, 3, 4, 1};
        for (int i = 0; i < blocks.length; i++) {
            x.putIn(10 * i);
            due("count(1) with " + (i + 1), x.count(1), blocks[i]);
            due("gaps in the last block of " + (i + 1), x.block(blocks[i] - 1, 1), gapsInTheLast[i]);
            due("gaps in the first block of " + (i + 1), x.block(0, 1), Math.min(4, i + 1));
        }
    }

    @Says(promise = 0, words = "A block has a divisor exponent e, 0 to 15. Its bits are 4 bits for e (the highest one first)")
    private static void exponentsGoFromZeroToFifteen() {
        dueStream(holding(0), "0000", "0");
        dueStream(holding(65535), "1111", "10", "111111111111111");
        // 8, 7 and 7 bits with the exponents 3, 4 and 5.
        dueStream(holding(33), "0100", "110", "0001");
        // 10, 9 and 9 bits with the exponents 6, 7 and 8.
        dueStream(holding(223), "0111", "10", "1011111");
    }

    @Says(promise = 0, words = "if q is less than ONES, the code is q ones, a zero, and the e lowest bits of the gap, "
        + "the highest one first (a plain code)")
    private static void oneLessThanOnesIsPlain() {
        due("cost(0, 0) of 7", holding(7).cost(0, 0), 4 + 8);
        due("cost(0, 1) of 15", holding(15).cost(0, 1), 4 + 9);
        RiceBlocks x = holding(0, 1, 2, 5);
        x.set(ONES, 3);
        dueStream(x, "0000", "0", "0", "0", "110");
        due("gap(3, 3)", x.gap(3, 3), 0);
        RiceBlocks y = holding(65535);
        y.set(ONES, 2);
        dueStream(y, "1111", "10", "111111111111111");
        due("gap(0, 3)", y.gap(0, 3), 0);
    }

    @Says(promise = 0, words = "Otherwise it is ONES ones, and all 16 bits of the gap, the highest one first (an escape).")
    private static void asManyAsOnesIsAnEscape() {
        due("cost(0, 0) of 8", holding(8).cost(0, 0), 4 + 24);
        due("cost(0, 0) of 9", holding(9).cost(0, 0), 4 + 24);
        due("cost(0, 1) of 16", holding(16).cost(0, 1), 4 + 24);
        // Exponent 1 takes 36 bits, too.
        RiceBlocks x = counting(0, 15);
        x.putIn(16);
        x.set(BLOCK, 16);
        x.set(ONES, 1);
        dueStream(x, "0000", "000000000000000", "1", "0000000000000001");
        due("gap(15, 3)", x.gap(15, 3), 1);
        due("gap(14, 3)", x.gap(14, 3), 0);
        dueStream(manyOnes(), "0000", "000000000000000", "1".repeat(30), "1111111111110000");
    }

    @Says(promise = 0, words = "The exponent of a block is the one by which its bits are fewest, of several the least one.")
    private static void theLeastOfTheBestExponentsIsTaken() {
        RiceBlocks x = holding(1);
        due("cost(0, 0)", x.cost(0, 0), 6);
        due("cost(0, 1)", x.cost(0, 1), 6);
        due("block(0, 0)", x.block(0, 0), 0);
        // An escape with each exponent.
        RiceBlocks y = holding(65535);
        y.set(ONES, 1);
        due("cost(0, 0)", y.cost(0, 0), 21);
        due("cost(0, 15)", y.cost(0, 15), 21);
        dueStream(y, "0000", "1", "1111111111111111");
        RiceBlocks z = holding(32767);
        z.set(ONES, 1);
        dueStream(z, "1111", "0", "111111111111111");
        z.shift(0, 1);
        dueStream(z, "0000", "1", "1000000000000000");
    }

    @Says(promise = 0, words = "For each block there is a skip: the place of its first bit in the stream")
    private static void theFirstSkipIsZero() {
        RiceBlocks x = counting(0, 9);
        due("block(0, 3)", x.block(0, 3), 0);
        due("block(1, 3)", x.block(1, 3), 8);
        due("block(2, 3)", x.block(2, 3), 16);
        due("count(2)", x.count(2), 21);
    }

    @Says(promise = 0, words = "the last number ahead of the block, or -1 if there is none")
    private static void theFirstBaseIsNone() {
        RiceBlocks x = holding(65533, 65534, 65535);
        x.set(BLOCK, 1);
        due("block(0, 4)", x.block(0, 4), 0);
        due("block(1, 4)", x.block(1, 4), 65534);
        due("block(2, 4)", x.block(2, 4), 65535);
        RiceBlocks y = holding(0, 9);
        y.set(BLOCK, 1);
        due("block(0, 4)", y.block(0, 4), 0);
        due("block(1, 4)", y.block(1, 4), 1);
    }

    @Says(promise = 0, words = "the last block whose base is less than the number that is asked for")
    private static void aNumberLikeTheBaseIsInTheBlockAhead() {
        RiceBlocks x = holding(0, 9, 65535);
        x.set(BLOCK, 1);
        due("find(0, 2)", x.find(0, 2), 0);
        due("find(1, 2)", x.find(1, 2), 1);
        due("find(9, 2)", x.find(9, 2), 1);
        due("find(10, 2)", x.find(10, 2), 2);
        due("find(65535, 2)", x.find(65535, 2), 2);
        RiceBlocks y = example();
        due("find(40, 2)", y.find(40, 2), 0);
        due("find(41, 2)", y.find(41, 2), 1);
        RiceBlocks z = counting(65472, 64);
        due("find(0, 2)", z.find(0, 2), 0);
        due("find(65531, 2)", z.find(65531, 2), 14);
        due("find(65532, 2)", z.find(65532, 2), 15);
    }

    @Says(promise = 0, words = "for a place, up to the code of this place")
    private static void thePlaceItselfIsRead() {
        RiceBlocks x = example();
        due("at(0, 1)", x.at(0, 1), 8);
        due("at(3, 1), the last of its block", x.at(3, 1), 24);
        due("at(4, 1), the first of its block", x.at(4, 1), 15);
        due("at(15, 1)", manyOnes().at(15, 1), 65);
    }

    @Says(promise = 0, words = "for a number, up to the first code by which a number comes that is not less, or the end of the block")
    private static void readingEndsWithTheNumberOrTheBlock() {
        RiceBlocks x = example();
        due("find(5, 3), in the row", x.find(5, 3), 12);
        due("find(4, 3), less than the next", x.find(4, 3), 12);
        due("find(7, 3), up to the end", x.find(7, 3), 24);
        due("find(1001, 3), behind the end", x.find(1001, 3), 15);
        x.takeOut(1000);
        due("find(41, 3), behind the end of four", x.find(41, 3), 24);
        due("find(41, 0)", x.find(41, 0), 4);
    }

    @Says(promise = 0, words = "The bits read are all bits of these codes and the 4 bits of the exponent.")
    private static void theExponentIsReadToo() {
        due("at(0, 1) of 0", holding(0).at(0, 1), 5);
        due("find(0, 3) of 0", holding(0).find(0, 3), 5);
        due("find(65535, 3)", manyOnes().find(65535, 3), 65);
        due("find(14, 3)", manyOnes().find(14, 3), 19);
    }

    @Says(promise = 0, words = "The pad is a text of at most 80 characters")
    private static void thePadEndsAtEighty() {
        RiceBlocks x = new RiceBlocks();
        write(x, "+1;".repeat(26));
        due("put(\"+2\")", x.put(packed("+2")), 80);
        due("put(\"1\")", x.put('1'), TOO_MANY);
        due("count(8)", x.count(8), 80);
        due("fault()", x.fault(), NONE);
    }

    @Says(promise = 0, words = "\"+\": putIn() numbers, one after the other (up to the first one that returns an error, "
        + "which the order returns; those ahead of it stay)")
    private static void numbersAheadOfTheRefusedOneStay() {
        RiceBlocks x = holding(5);
        due("carryOut()", carried(x, "+3,9,5,7;+8"), 0);
        dueRow(x, 3, 5, 9);
        due("carryOut()", carried(x, "+1,1;+2"), 0);
        dueRow(x, 1, 3, 5, 9);
        RiceBlocks full = counting(0, 62);
        due("carryOut() up to 64", carried(full, "+100,101,102,103"), 0);
        due("count(0)", full.count(0), 64);
        due("at(63, 0)", full.at(63, 0), 101);
        due("carryOut() of a full row", carried(full, "+200"), 0);
        due("count(0)", full.count(0), 64);
    }

    @Says(promise = 0, words = "\"-\": takeOut() one")
    private static void anOrderTakesOneOut() {
        RiceBlocks x = holding(0, 65535);
        due("carryOut() of what is not there", carried(x, "-1;-0"), 0);
        dueRow(x, 0, 65535);
        due("carryOut()", carried(x, "-65535;-0;-0"), 2);
        dueRow(x);
    }

    @Says(promise = 0, words = "\"b\", \"o\": set() of BLOCK, of ONES.")
    private static void ordersSetWithinTheRanges() {
        RiceBlocks x = new RiceBlocks();
        due("carryOut()", carried(x, "b1;o1;b16;o30"), 4);
        due("count(6)", x.count(6), 16);
        due("count(7)", x.count(7), 30);
        String[] refused = {"b0", "b17", "b65535", "o0", "o31", "o65535"};
        for (String order : refused) {
            due("carryOut() of " + order, carried(x, order + ";b3"), 0);
            due("count(6)", x.count(6), 16);
            due("count(7)", x.count(7), 30);
        }
        due("carryOut()", carried(x, "b17;o2"), 0);
        due("count(7)", x.count(7), 30);
    }

    @Says(promise = 0, words = "A number is 0 to 65535, without leading zeros.")
    private static void numbersHaveNoLeadingZeros() {
        for (String order : new String[] {"+", "-", "b", "o", "+7,", "+7;+"}) {
            dueFault(order + "0", NONE);
            dueFault(order + "65535", NONE);
            dueFault(order + "10000", NONE);
            dueFault(order + "00", order.length() + 1);
            dueFault(order + "01", order.length() + 1);
            dueFault(order + "065535", order.length() + 1);
        }
        dueFault("+0,0;-0;b0;o0", NONE);
    }

    @Says(promise = 0, words = "The fault is the index of the first character that cannot stand at its place "
        + "when the text is read from left to right")
    private static void theFaultIsTheFirstOneFromTheLeft() {
        String[] texts = {"1", ";", ",", "x", "B4", "O4", "++", "+-", "+b", "+,", "+;", "+1+", "+1-", "+1b", "+1o", "+1x", "+1.",
            "-1,", "b1,", "o1,", "-,", "b;", "+1,,", "+1,;", "+1,+", "+1,b", "+1;;", "+1;,", "+1;1", "+1;x", "+1,2;-3;b4;o5;z",
            "x!", "+1,,,", "!+1", "+/", "+:", "+1/", "+1:"};
        int[] faults = {0, 0, 0, 0, 0, 0, 1, 1, 1, 1, 1, 2, 2, 2, 2, 2, 2,
            2, 2, 2, 1, 1, 3, 3, 3, 3, 3, 3, 3, 3, 14,
            0, 3, 0, 1, 1, 2, 2};
        due("rows of the table", texts.length, faults.length);
        for (int i = 0; i < texts.length; i++) {
            dueFault(texts[i], faults[i]);
        }
        dueFault("+" + "1,".repeat(39) + ",", 79);
        dueFault("~" + "1".repeat(79), 0);
    }

    @Says(promise = 0, words = "(also of a digit by which a number would be above 65535)")
    private static void theDigitAboveTheLimitIsTheFault() {
        String[] numbers = {"65536", "65537", "65539", "65540", "65600", "66000", "70000", "99999"};
        for (String number : numbers) {
            dueFault("+" + number, 5);
            dueFault("b" + number, 5);
            dueFault("+1,2;-" + number, 10);
        }
        dueFault("+655350", 6);
        dueFault("+100000", 6);
        dueFault("+" + "1".repeat(79), 6);
        dueFault("+" + "9".repeat(79), 5);
        for (String number : new String[] {"65535", "65529", "65499", "64999", "59999", "9999"}) {
            dueFault("-" + number, NONE);
        }
    }

    @Says(promise = 0, words = "if there is none and the text ends too early (also if it is empty), it is the length of the text")
    private static void anEarlyEndIsTheLength() {
        for (String text : new String[] {"", "+", "-", "b", "o", "+1,", "+1;", "-1;", "+1,2,", "+1;+", "b4;o8;", "+0,"}) {
            dueFault(text, text.length());
        }
        dueFault("+12," + "1,".repeat(38), 80);
    }

    // ---- promises 1 to 5: changes

    @Says(promise = 1, words = "Creates an empty row.")
    private static void aNewRowIsEmpty() {
        RiceBlocks other = holding(1, 2, 3);
        other.set(BLOCK, 9);
        other.set(ONES, 9);
        other.save(0);
        other.put('+');
        RiceBlocks x = new RiceBlocks();
        int[] counts = {0, 0, 0, 0, 0, NONE, 4, 8, 0, 0};
        for (int what = 0; what < counts.length; what++) {
            due("count(" + what + ")", x.count(what), counts[what]);
        }
        due("restore(0)", x.restore(0), NOT_POSSIBLE);
        due("restore(1)", x.restore(1), NOT_POSSIBLE);
        due("undo()", x.undo(), NOT_POSSIBLE);
        due("wipe()", x.wipe(), 0);
    }

    @Says(promise = 2, words = "BAD_VALUE if there is no such setting")
    private static void thereIsNoThirdSetting() {
        RiceBlocks x = new RiceBlocks();
        for (int setting : new int[] {-1, 2, 3, MIN, MAX}) {
            for (int value : new int[] {1, 4, 8, 16, 17}) {
                due("set(" + setting + ", " + value + ")", x.set(setting, value), BAD_VALUE);
            }
        }
        due("count(9)", x.count(9), 0);
    }

    @Says(promise = 2, words = "or the value is out of its range")
    private static void eachSettingHasItsOwnRange() {
        RiceBlocks x = new RiceBlocks();
        for (int value : new int[] {0, -1, 31, MIN, MAX, 65536 + 4}) {
            due("set(BLOCK, " + value + ")", x.set(BLOCK, value), BAD_VALUE);
            due("set(ONES, " + value + ")", x.set(ONES, value), BAD_VALUE);
        }
        due("set(BLOCK, 17)", x.set(BLOCK, 17), BAD_VALUE);
        due("set(ONES, 17)", x.set(ONES, 17), 8);
        due("set(BLOCK, 30)", x.set(BLOCK, 30), BAD_VALUE);
        due("set(ONES, 30)", x.set(ONES, 30), 17);
    }

    @Says(promise = 2, words = "Returns the previous value")
    private static void settingAnswersWhatWasThere() {
        RiceBlocks x = new RiceBlocks();
        int before = 4;
        for (int value = 16; value >= 1; value--) {
            due("set(BLOCK, " + value + ")", x.set(BLOCK, value), before);
            before = value;
        }
        before = 8;
        for (int value = 30; value >= 1; value--) {
            due("set(ONES, " + value + ")", x.set(ONES, value), before);
            before = value;
        }
        due("set(ONES, 1) again", x.set(ONES, 1), 1);
    }

    @Says(promise = 2, words = "all is coded anew")
    private static void aSettingChangesTheWholeStream() {
        RiceBlocks x = counting(0, 5);
        dueStream(x, "0000", "0000", "0000", "0");
        x.set(BLOCK, 1);
        dueStream(x, "00000", "00000", "00000", "00000", "00000");
        x.set(BLOCK, 16);
        dueStream(x, "0000", "00000");
        RiceBlocks y = holding(7);
        y.set(ONES, 1);
        dueStream(y, "0011", "0", "111");
        dueStream(new RiceBlocks());
    }

    @Says(promise = 3, words = "`number`: 0 to 65535")
    private static void theLeastAndTheGreatestNumberGoIn() {
        RiceBlocks x = new RiceBlocks();
        due("putIn(65535)", x.putIn(65535), 0);
        due("putIn(0)", x.putIn(0), 0);
        due("putIn(1)", x.putIn(1), 1);
        due("putIn(65534)", x.putIn(65534), 2);
        dueRow(x, 0, 1, 65534, 65535);
    }

    @Says(promise = 3, words = "BAD_VALUE if number is out of range")
    private static void putInRefusesOtherNumbers() {
        RiceBlocks x = new RiceBlocks();
        for (int number : new int[] {-1, 65536, -65536, 65536 * 2, MIN, MAX}) {
            due("putIn(" + number + ")", x.putIn(number), BAD_VALUE);
        }
        due("count(0)", x.count(0), 0);
        RiceBlocks full = counting(0, 64);
        due("putIn(-1) into a full row", full.putIn(-1), BAD_VALUE);
        due("putIn(65536) into a full row", full.putIn(65536), BAD_VALUE);
    }

    @Says(promise = 3, words = "TOO_MANY if there are 64 numbers")
    private static void putInRefusesTheSixtyFifth() {
        RiceBlocks x = counting(10, 63);
        due("putIn(9) as the 64th", x.putIn(9), 0);
        due("putIn(8)", x.putIn(8), TOO_MANY);
        due("putIn(9), which is in the row", x.putIn(9), TOO_MANY);
        due("putIn(65535)", x.putIn(65535), TOO_MANY);
        due("count(0)", x.count(0), 64);
        due("takeOut(72)", x.takeOut(72), 63);
        due("putIn(65535)", x.putIn(65535), 63);
        due("putIn(0)", x.putIn(0), TOO_MANY);
    }

    @Says(promise = 3, words = "NOT_POSSIBLE if it is in the row already")
    private static void putInRefusesWhatIsThere() {
        RiceBlocks x = holding(0, 7, 65535);
        due("putIn(0)", x.putIn(0), NOT_POSSIBLE);
        due("putIn(7)", x.putIn(7), NOT_POSSIBLE);
        due("putIn(65535)", x.putIn(65535), NOT_POSSIBLE);
        due("putIn(6)", x.putIn(6), 1);
        due("putIn(8)", x.putIn(8), 3);
        due("takeOut(7)", x.takeOut(7), 2);
        due("putIn(7)", x.putIn(7), 2);
    }

    @Says(promise = 3, words = "Returns its place in the row")
    private static void putInAnswersThePlace() {
        RiceBlocks x = new RiceBlocks();
        due("putIn(50) into an empty row", x.putIn(50), 0);
        due("putIn(49) ahead of all", x.putIn(49), 0);
        due("putIn(52) behind all", x.putIn(52), 2);
        due("putIn(51) between", x.putIn(51), 2);
        // The block behind the place is coded anew, too.
        due("putIn(0)", x.putIn(0), 0);
        due("block(1, 4)", x.block(1, 4), 52);
        due("gap(1, 0)", x.gap(1, 0), 48);
        due("check()", x.check(), 1);
    }

    @Says(promise = 4, words = "BAD_VALUE if number is out of range")
    private static void takeOutRefusesOtherNumbers() {
        RiceBlocks x = holding(0, 65535);
        for (int number : new int[] {-1, 65536, MIN, MAX}) {
            due("takeOut(" + number + ")", x.takeOut(number), BAD_VALUE);
            due("takeOut(" + number + ") of nothing", new RiceBlocks().takeOut(number), BAD_VALUE);
        }
        due("takeOut(65535)", x.takeOut(65535), 1);
        due("takeOut(0)", x.takeOut(0), 0);
    }

    @Says(promise = 4, words = "NO_SUCH if it is not in the row")
    private static void takeOutRefusesWhatIsNotThere() {
        RiceBlocks x = holding(5, 7);
        for (int number : new int[] {0, 4, 6, 8, 65535}) {
            due("takeOut(" + number + ")", x.takeOut(number), NO_SUCH);
            due("takeOut(" + number + ") of nothing", new RiceBlocks().takeOut(number), NO_SUCH);
        }
        due("takeOut(7)", x.takeOut(7), 1);
        due("takeOut(7) again", x.takeOut(7), NO_SUCH);
    }

    @Says(promise = 4, words = "Returns the place that it had")
    private static void takeOutAnswersThePlace() {
        RiceBlocks x = counting(0, 64);
        due("takeOut(63), the last one", x.takeOut(63), 63);
        due("takeOut(0), the first one", x.takeOut(0), 0);
        due("takeOut(30)", x.takeOut(30), 29);
        due("count(0)", x.count(0), 61);
        due("at(28, 0)", x.at(28, 0), 29);
        due("at(29, 0)", x.at(29, 0), 31);
        RiceBlocks one = holding(9);
        due("takeOut(9), the only one", one.takeOut(9), 0);
        due("count(1)", one.count(1), 0);
        due("count(2)", one.count(2), 0);
        due("bit(0)", one.bit(0), NO_SUCH);
    }

    @Says(promise = 5, words = "Adds a number to all numbers of the row from a place on (they stay in their order).")
    private static void shiftMovesAllFromThePlaceOn() {
        RiceBlocks x = holding(10, 20, 30);
        x.shift(0, 5);
        dueRow(x, 15, 25, 35);
        x.shift(1, 5);
        dueRow(x, 15, 30, 40);
        x.shift(2, -9);
        dueRow(x, 15, 30, 31);
    }

    @Says(promise = 5, words = "NO_SUCH if there is no such place")
    private static void shiftRefusesOtherPlaces() {
        RiceBlocks x = holding(10, 20, 30);
        for (int place : new int[] {-1, 3, 4, 64, MIN, MAX}) {
            due("shift(" + place + ", 0)", x.shift(place, 0), NO_SUCH);
            due("shift(" + place + ", 65536)", x.shift(place, 65536), NO_SUCH);
        }
        due("shift(0, 0) of nothing", new RiceBlocks().shift(0, 0), NO_SUCH);
        due("shift(0, 65536) of nothing", new RiceBlocks().shift(0, 65536), NO_SUCH);
        RiceBlocks full = counting(0, 64);
        due("shift(64, 0)", full.shift(64, 0), NO_SUCH);
        due("shift(63, 1)", full.shift(63, 1), full.count(2));
    }

    @Says(promise = 5, words = "`by`: -65535 to 65535")
    private static void theFarthestShiftsArePossible() {
        RiceBlocks x = holding(0);
        due("shift(0, 65535)", x.shift(0, 65535), 21);
        dueRow(x, 65535);
        due("shift(0, -65535)", x.shift(0, -65535), 5);
        dueRow(x, 0);
    }

    @Says(promise = 5, words = "BAD_VALUE if by is out of range")
    private static void shiftRefusesMore() {
        RiceBlocks x = holding(0, 65535);
        for (int by : new int[] {65536, -65536, MAX, MIN, MAX - 65535}) {
            due("shift(0, " + by + ")", x.shift(0, by), BAD_VALUE);
            due("shift(1, " + by + ")", x.shift(1, by), BAD_VALUE);
        }
        dueRow(x, 0, 65535);
    }

    @Says(promise = 5, words = "NOT_POSSIBLE if a number would be out of range")
    private static void shiftStaysInTheRange() {
        RiceBlocks x = holding(5, 10, 65530);
        due("shift(0, -6)", x.shift(0, -6), NOT_POSSIBLE);
        due("shift(0, 6)", x.shift(0, 6), NOT_POSSIBLE);
        due("shift(1, 6)", x.shift(1, 6), NOT_POSSIBLE);
        due("shift(2, 6)", x.shift(2, 6), NOT_POSSIBLE);
        due("shift(0, 65535)", x.shift(0, 65535), NOT_POSSIBLE);
        due("shift(0, -65535)", x.shift(0, -65535), NOT_POSSIBLE);
        dueRow(x, 5, 10, 65530);
        due("shift(0, -5)", x.shift(0, -5), x.count(2));
        dueRow(x, 0, 5, 65525);
        due("shift(0, 10)", x.shift(0, 10), x.count(2));
        dueRow(x, 10, 15, 65535);
    }

    @Says(promise = 5, words = "or would not be greater than the one ahead of it")
    private static void shiftKeepsNumbersUnlike() {
        RiceBlocks x = holding(5, 10, 20);
        due("shift(1, -5)", x.shift(1, -5), NOT_POSSIBLE);
        due("shift(1, -6)", x.shift(1, -6), NOT_POSSIBLE);
        due("shift(2, -10)", x.shift(2, -10), NOT_POSSIBLE);
        dueRow(x, 5, 10, 20);
        due("shift(1, -4)", x.shift(1, -4), x.count(2));
        dueRow(x, 5, 6, 16);
        due("shift(2, -9)", x.shift(2, -9), x.count(2));
        dueRow(x, 5, 6, 7);
    }

    @Says(promise = 5, words = "Returns how many bits the stream has then")
    private static void shiftAnswersTheBits() {
        RiceBlocks x = holding(0, 1, 2, 3, 60000);
        due("shift(4, -59996)", x.shift(4, -59996), 13);
        due("shift(4, 0)", x.shift(4, 0), 13);
        // Gap 1 in the last block takes one bit more.
        due("shift(4, 1)", x.shift(4, 1), 14);
        due("count(2)", x.count(2), 14);
    }

    // ---- promises 6 to 10: what there is

    @Says(promise = 6, words = "NO_SUCH if there is no such place")
    private static void gapRefusesOtherPlaces() {
        RiceBlocks x = example();
        for (int what : new int[] {0, 1, 2, 3, 4, 5, -1}) {
            due("gap(-1, " + what + ")", x.gap(-1, what), NO_SUCH);
            due("gap(5, " + what + ")", x.gap(5, what), NO_SUCH);
            due("gap(0, " + what + ") of nothing", new RiceBlocks().gap(0, what), NO_SUCH);
        }
        due("gap(min, 0)", x.gap(MIN, 0), NO_SUCH);
        due("gap(max, 0)", x.gap(MAX, 0), NO_SUCH);
        due("gap(64, 0) of a full row", counting(0, 64).gap(64, 0), NO_SUCH);
        due("gap(63, 0) of a full row", counting(0, 64).gap(63, 0), 0);
    }

    @Says(promise = 6, words = "BAD_VALUE if what is out of range")
    private static void gapRefusesOtherQuestions() {
        RiceBlocks x = example();
        for (int what : new int[] {-1, 5, MIN, MAX}) {
            due("gap(0, " + what + ")", x.gap(0, what), BAD_VALUE);
            due("gap(4, " + what + ")", x.gap(4, what), BAD_VALUE);
        }
    }

    @Says(promise = 6, words = "2 the bits of its code, 3 whether it is an escape (1 or 0)")
    private static void gapTellsEscapes() {
        RiceBlocks x = manyOnes();
        due("gap(15, 2)", x.gap(15, 2), 46);
        due("gap(15, 3)", x.gap(15, 3), 1);
        due("gap(14, 2)", x.gap(14, 2), 1);
        due("gap(14, 3)", x.gap(14, 3), 0);
        RiceBlocks y = holding(65535);
        due("gap(0, 2)", y.gap(0, 2), 17);
        due("gap(0, 3)", y.gap(0, 3), 0);
        y.set(ONES, 1);
        due("gap(0, 2)", y.gap(0, 2), 17);
        due("gap(0, 3)", y.gap(0, 3), 1);
    }

    @Says(promise = 6, words = "4 the place of the first bit of its code in the stream")
    private static void theFirstCodeStandsBehindTheExponent() {
        RiceBlocks x = counting(0, 9);
        due("gap(0, 4)", x.gap(0, 4), 4);
        due("gap(3, 4)", x.gap(3, 4), 7);
        due("gap(4, 4), the first of its block", x.gap(4, 4), 12);
        due("gap(8, 4), alone in its block", x.gap(8, 4), 20);
    }

    @Says(promise = 7, words = "NO_SUCH if there is no such block")
    private static void blockRefusesOtherBlocks() {
        RiceBlocks x = example();
        for (int what : new int[] {0, 1, 2, 3, 4, 5, 6, 7, -1}) {
            due("block(-1, " + what + ")", x.block(-1, what), NO_SUCH);
            due("block(2, " + what + ")", x.block(2, what), NO_SUCH);
            due("block(0, " + what + ") of nothing", new RiceBlocks().block(0, what), NO_SUCH);
        }
        due("block(min, 0)", x.block(MIN, 0), NO_SUCH);
        due("block(max, 0)", x.block(MAX, 0), NO_SUCH);
        RiceBlocks full = counting(0, 64);
        due("block(15, 1)", full.block(15, 1), 4);
        due("block(16, 1)", full.block(16, 1), NO_SUCH);
        full.set(BLOCK, 1);
        due("block(63, 1)", full.block(63, 1), 1);
        due("block(63, 3)", full.block(63, 3), 315);
        due("block(64, 1)", full.block(64, 1), NO_SUCH);
    }

    @Says(promise = 7, words = "BAD_VALUE if what is out of range")
    private static void blockRefusesOtherQuestions() {
        RiceBlocks x = example();
        for (int what : new int[] {-1, 7, MIN, MAX}) {
            due("block(0, " + what + ")", x.block(0, what), BAD_VALUE);
            due("block(1, " + what + ")", x.block(1, what), BAD_VALUE);
        }
    }

    @Says(promise = 7, words = "5 its escapes, 6 its greatest gap")
    private static void blockTellsEscapesAndTheGreatestGap() {
        RiceBlocks x = manyOnes();
        due("block(0, 2)", x.block(0, 2), 65);
        due("block(0, 5)", x.block(0, 5), 1);
        due("block(0, 6)", x.block(0, 6), 65520);
        RiceBlocks zeros = counting(0, 4);
        due("block(0, 5)", zeros.block(0, 5), 0);
        due("block(0, 6)", zeros.block(0, 6), 0);
        RiceBlocks first = holding(500, 501, 510, 512);
        due("block(0, 6), the first gap", first.block(0, 6), 500);
        due("block(0, 6), the only gap", holding(65535).block(0, 6), 65535);
        // With one of ONES the gap 32768 is an escape with each exponent, and 32766 with all but 15.
        RiceBlocks y = holding(32768, 65535);
        y.set(ONES, 1);
        due("block(0, 5)", y.block(0, 5), 1);
        due("block(0, 0)", y.block(0, 0), 15);
    }

    @Says(promise = 8, words = "NO_SUCH if there is no such place in the stream")
    private static void bitRefusesOtherPlaces() {
        RiceBlocks x = example();
        due("bit(0)", x.bit(0), 0);
        due("bit(38)", x.bit(38), 1);
        for (int place : new int[] {-1, 39, 40, 1343, 1344, 5000, MIN, MAX}) {
            due("bit(" + place + ")", x.bit(place), NO_SUCH);
        }
        due("bit(0) of nothing", new RiceBlocks().bit(0), NO_SUCH);
        x.takeOut(1000);
        due("bit(23)", x.bit(23), 1);
        due("bit(24) of what is shorter now", x.bit(24), NO_SUCH);
    }

    @Says(promise = 9, words = "Returns 32 bits of the stream as a number, the first one as its highest bit")
    private static void thirtyTwoOnesAreNotNegative() {
        RiceBlocks x = manyOnes();
        due("bits(18)", x.bits(18), 2147483647L);
        due("bits(19)", x.bits(19), 4294967295L);
        due("bits(29)", x.bits(29), 4294967295L);
        due("bits(30)", x.bits(30), 4294967294L);
        due("bits(0)", x.bits(0), 8191);
        due("bits(0) of zeros", counting(0, 64).bits(0), 0);
    }

    @Says(promise = 9, words = "bits behind the end are 0")
    private static void bitsBehindTheEndAreZero() {
        RiceBlocks x = manyOnes();
        due("bits(33), up to the end", x.bits(33), 4294967280L);
        due("bits(34), one behind the end", x.bits(34), 4294967264L);
        due("bits(60), five bits", x.bits(60), 2147483648L);
        due("bits(64), the last bit", x.bits(64), 0);
        RiceBlocks y = holding(65535);
        due("bits(20), the last bit", y.bits(20), 2147483648L);
        due("bits(0), 21 bits", y.bits(0), 0b111110111111111111111L << 11);
        y.shift(0, -65535);
        due("bits(0) of what is shorter now", y.bits(0), 0);
    }

    @Says(promise = 9, words = "-1 if there is no such place in the stream")
    private static void bitsRefusesOtherPlaces() {
        RiceBlocks x = example();
        for (int place : new int[] {-1, -32, 39, 40, 1343, 1344, 5000, MIN, MAX, MAX - 31}) {
            due("bits(" + place + ")", x.bits(place), -1);
        }
        due("bits(38)", x.bits(38), 2147483648L);
        due("bits(0) of nothing", new RiceBlocks().bits(0), -1);
    }

    @Says(promise = 10, words = "BAD_VALUE if what is out of range")
    private static void countRefusesOtherQuestions() {
        for (int what : new int[] {-1, 10, 11, MIN, MAX}) {
            due("count(" + what + ")", example().count(what), BAD_VALUE);
            due("count(" + what + ") of nothing", new RiceBlocks().count(what), BAD_VALUE);
        }
    }

    @Says(promise = 10, words = "0 numbers, 1 blocks, 2 bits of the stream, 3 escapes, "
        + "4 the bits that all numbers would take with 16 bits each")
    private static void countsOfAFullRow() {
        RiceBlocks x = counting(0, 64);
        int[] counts = {64, 16, 128, 0, 1024};
        for (int what = 0; what < counts.length; what++) {
            due("count(" + what + ")", x.count(what), counts[what]);
        }
        x.set(BLOCK, 1);
        due("count(1) with one gap in a block", x.count(1), 64);
        x.set(BLOCK, 16);
        due("count(1) with 16", x.count(1), 4);
        x.set(BLOCK, 13);
        due("count(1) with 13", x.count(1), 5);
        due("count(4) of one", holding(65535).count(4), 16);
        RiceBlocks y = holding(0, 1, 2, 1000, 1001, 1002, 1003, 2000);
        y.set(ONES, 1);
        due("count(3) in two blocks", y.count(3), 2);
    }

    @Says(promise = 10, words = "5 the greatest exponent (NONE without blocks)")
    private static void theGreatestExponentOfAllBlocks() {
        due("count(5) of nothing", new RiceBlocks().count(5), NONE);
        due("count(5) of 0", holding(0).count(5), 0);
        due("count(5) of 65535", holding(65535).count(5), 15);
        // 17 bits with the exponents 14 and 15.
        RiceBlocks first = holding(40000, 40001, 40002);
        first.set(BLOCK, 1);
        due("count(5), in the first block", first.count(5), 14);
        RiceBlocks last = holding(0, 1, 40002);
        last.set(BLOCK, 1);
        due("count(5), in the last block", last.count(5), 14);
        last.takeOut(40002);
        due("count(5), when it is gone", last.count(5), 0);
        last.takeOut(0);
        last.takeOut(1);
        due("count(5), when all are gone", last.count(5), NONE);
    }

    @Says(promise = 10, words = "6 and 7 the settings, 8 the length of the pad, 9 how many changes can be undone")
    private static void countsOfAnObjectThatIsFull() {
        RiceBlocks x = new RiceBlocks();
        for (int i = 1; i <= 16; i++) {
            x.set(BLOCK, i);
            due("count(9)", x.count(9), Math.min(6, i));
        }
        x.set(ONES, 30);
        write(x, "x".repeat(80));
        due("count(6)", x.count(6), 16);
        due("count(7)", x.count(7), 30);
        due("count(8)", x.count(8), 80);
        due("count(9)", x.count(9), 6);
    }

    // ---- promises 11 to 16: questions

    @Says(promise = 11, words = "NO_SUCH if there is no such place")
    private static void atRefusesOtherPlaces() {
        RiceBlocks x = example();
        for (int what : new int[] {0, 1, 2, -1}) {
            due("at(-1, " + what + ")", x.at(-1, what), NO_SUCH);
            due("at(5, " + what + ")", x.at(5, what), NO_SUCH);
            due("at(0, " + what + ") of nothing", new RiceBlocks().at(0, what), NO_SUCH);
        }
        due("at(min, 0)", x.at(MIN, 0), NO_SUCH);
        due("at(max, 0)", x.at(MAX, 0), NO_SUCH);
        due("at(64, 0) of a full row", counting(0, 64).at(64, 0), NO_SUCH);
        due("at(63, 0) of a full row", counting(0, 64).at(63, 0), 63);
    }

    @Says(promise = 11, words = "BAD_VALUE if what is neither 0 nor 1")
    private static void atRefusesOtherQuestions() {
        RiceBlocks x = example();
        for (int what : new int[] {-1, 2, MIN, MAX}) {
            due("at(0, " + what + ")", x.at(0, what), BAD_VALUE);
            due("at(4, " + what + ")", x.at(4, what), BAD_VALUE);
        }
    }

    @Says(promise = 11, words = "Returns a number of the row, from its block.")
    private static void atReadsEscapesAndZeros() {
        due("at(15, 0)", manyOnes().at(15, 0), 65535);
        due("at(14, 0)", manyOnes().at(14, 0), 14);
        due("at(0, 0)", manyOnes().at(0, 0), 0);
        RiceBlocks x = holding(0, 65535);
        x.set(BLOCK, 1);
        due("at(1, 0)", x.at(1, 0), 65535);
        // 65534 takes 17 bits with exponent 15.
        due("at(1, 1)", x.at(1, 1), 21);
        x.set(ONES, 1);
        due("at(1, 0)", x.at(1, 0), 65535);
        due("at(1, 1)", x.at(1, 1), 21);
    }

    @Says(promise = 12, words = "`number`: 0 to 65535")
    private static void theLeastAndTheGreatestNumberAreFound() {
        RiceBlocks x = holding(0, 65535);
        due("find(0, 0)", x.find(0, 0), 0);
        due("find(0, 1)", x.find(0, 1), 1);
        due("find(65535, 0)", x.find(65535, 0), 1);
        due("find(65535, 1)", x.find(65535, 1), 1);
        due("find(65534, 0)", x.find(65534, 0), 1);
        due("find(65534, 1)", x.find(65534, 1), 0);
    }

    @Says(promise = 12, words = "0 the place in the row of the first number that is not less (the length of the row, if there is none)")
    private static void findAnswersTheLengthBehindAll() {
        RiceBlocks x = example();
        due("find(1000, 0)", x.find(1000, 0), 4);
        due("find(1001, 0)", x.find(1001, 0), 5);
        due("find(65535, 0)", x.find(65535, 0), 5);
        due("find(0, 0)", x.find(0, 0), 0);
        due("find(41, 0), the first of a block", x.find(41, 0), 4);
        due("find(0, 0) of nothing", new RiceBlocks().find(0, 0), 0);
        due("find(65535, 0) of nothing", new RiceBlocks().find(65535, 0), 0);
        RiceBlocks full = counting(0, 64);
        due("find(63, 0)", full.find(63, 0), 63);
        due("find(64, 0)", full.find(64, 0), 64);
    }

    @Says(promise = 12, words = "1 whether it is in the row (1 or 0)")
    private static void findTellsWhetherItIsThere() {
        RiceBlocks x = example();
        int[] asked = {0, 2, 3, 4, 5, 6, 7, 39, 40, 41, 999, 1000, 1001, 65535};
        int[] there = {0, 0, 1, 0, 1, 1, 0, 0, 1, 0, 0, 1, 0, 0};
        for (int i = 0; i < asked.length; i++) {
            due("find(" + asked[i] + ", 1)", x.find(asked[i], 1), there[i]);
        }
        due("find(0, 1) of nothing", new RiceBlocks().find(0, 1), 0);
    }

    @Says(promise = 12, words = "2 the block that was read (NONE without numbers)")
    private static void findReadsNoBlockOfNothing() {
        RiceBlocks x = new RiceBlocks();
        due("find(0, 2)", x.find(0, 2), NONE);
        due("find(65535, 2)", x.find(65535, 2), NONE);
        x.putIn(65535);
        due("find(0, 2)", x.find(0, 2), 0);
        x.takeOut(65535);
        due("find(0, 2)", x.find(0, 2), NONE);
        RiceBlocks full = counting(0, 64);
        full.set(BLOCK, 1);
        due("find(65535, 2)", full.find(65535, 2), 63);
        due("find(0, 2)", full.find(0, 2), 0);
    }

    @Says(promise = 12, words = "3 the bits read (0 without)")
    private static void findReadsNoBitsOfNothing() {
        RiceBlocks x = new RiceBlocks();
        due("find(0, 3)", x.find(0, 3), 0);
        due("find(65535, 3)", x.find(65535, 3), 0);
        x.putIn(0);
        due("find(0, 3)", x.find(0, 3), 5);
        due("find(65535, 3)", x.find(65535, 3), 5);
        x.takeOut(0);
        due("find(0, 3)", x.find(0, 3), 0);
    }

    @Says(promise = 12, words = "BAD_VALUE if an argument is out of range")
    private static void findRefusesOtherArguments() {
        for (RiceBlocks x : new RiceBlocks[] {example(), new RiceBlocks()}) {
            for (int number : new int[] {-1, 65536, MIN, MAX}) {
                for (int what = 0; what < 4; what++) {
                    due("find(" + number + ", " + what + ")", x.find(number, what), BAD_VALUE);
                }
            }
            for (int what : new int[] {-1, 4, MIN, MAX}) {
                due("find(0, " + what + ")", x.find(0, what), BAD_VALUE);
                due("find(65535, " + what + ")", x.find(65535, what), BAD_VALUE);
                due("find(65536, " + what + ")", x.find(65536, what), BAD_VALUE);
            }
        }
    }

    @Says(promise = 13, words = "`exponent`: 0 to 15")
    private static void theLeastAndTheGreatestExponentHaveACost() {
        RiceBlocks x = holding(65535);
        due("cost(0, 0)", x.cost(0, 0), 28);
        due("cost(0, 13)", x.cost(0, 13), 4 + 7 + 1 + 13);
        due("cost(0, 15)", x.cost(0, 15), 21);
        RiceBlocks zeros = counting(0, 16);
        zeros.set(BLOCK, 16);
        due("cost(0, 0)", zeros.cost(0, 0), 20);
        due("cost(0, 15)", zeros.cost(0, 15), 260);
    }

    @Says(promise = 13, words = "NO_SUCH if there is no such block")
    private static void costRefusesOtherBlocks() {
        RiceBlocks x = example();
        for (int exponent : new int[] {0, 15, 16, -1}) {
            due("cost(-1, " + exponent + ")", x.cost(-1, exponent), NO_SUCH);
            due("cost(2, " + exponent + ")", x.cost(2, exponent), NO_SUCH);
            due("cost(0, " + exponent + ") of nothing", new RiceBlocks().cost(0, exponent), NO_SUCH);
        }
        due("cost(min, 0)", x.cost(MIN, 0), NO_SUCH);
        due("cost(max, 0)", x.cost(MAX, 0), NO_SUCH);
        RiceBlocks full = counting(0, 64);
        due("cost(16, 0)", full.cost(16, 0), NO_SUCH);
        full.set(BLOCK, 1);
        due("cost(63, 0)", full.cost(63, 0), 5);
        due("cost(64, 0)", full.cost(64, 0), NO_SUCH);
    }

    @Says(promise = 13, words = "BAD_VALUE if exponent is out of range")
    private static void costRefusesOtherExponents() {
        RiceBlocks x = example();
        for (int exponent : new int[] {-1, 16, 32, MIN, MAX}) {
            due("cost(0, " + exponent + ")", x.cost(0, exponent), BAD_VALUE);
            due("cost(1, " + exponent + ")", x.cost(1, exponent), BAD_VALUE);
        }
    }

    @Says(promise = 14, words = "BAD_VALUE if there is no such setting")
    private static void withKnowsNoThirdSetting() {
        for (int setting : new int[] {-1, 2, MIN, MAX}) {
            due("with(" + setting + ", 1)", example().with(setting, 1), BAD_VALUE);
            due("with(" + setting + ", 1) of nothing", new RiceBlocks().with(setting, 1), BAD_VALUE);
        }
    }

    @Says(promise = 14, words = "or the value is out of its range")
    private static void withHasTheRangesOfTheSettings() {
        RiceBlocks x = example();
        for (int value : new int[] {0, -1, 31, MIN, MAX}) {
            due("with(BLOCK, " + value + ")", x.with(BLOCK, value), BAD_VALUE);
            due("with(ONES, " + value + ")", x.with(ONES, value), BAD_VALUE);
        }
        due("with(BLOCK, 17)", x.with(BLOCK, 17), BAD_VALUE);
        due("with(BLOCK, 30)", x.with(BLOCK, 30), BAD_VALUE);
        due("with(BLOCK, 1)", x.with(BLOCK, 1), 44);
        due("with(BLOCK, 16)", x.with(BLOCK, 16), 48);
        due("with(ONES, 1)", x.with(ONES, 1), 45);
        // 33 is a plain code of 11 bits with exponent 2 then, and the first block has 24 bits with 2 and with 3.
        due("with(ONES, 30)", x.with(ONES, 30), 39);
    }

    @Says(promise = 14, words = "Tells how many bits the stream would have by another setting.")
    private static void withIsWhatSetMakes() {
        RiceBlocks[] rows = {example(), manyOnes(), holding(), holding(0), holding(65535), holding(9, 4000, 4001, 4002, 4009, 60000)};
        for (RiceBlocks x : rows) {
            for (int setting = 0; setting <= 1; setting++) {
                for (int value = 1; value <= (setting == BLOCK ? 16 : 30); value++) {
                    int told = x.with(setting, value);
                    x.set(setting, value);
                    due("with(" + setting + ", " + value + ")", told, x.count(2));
                    x.undo();
                }
            }
        }
    }

    @Says(promise = 15, words = "Finds the BLOCK by which the stream would have the fewest bits, of several the greatest one.")
    private static void theGreatestOfTheBestBlocksIsTaken() {
        due("best(0) of nothing", new RiceBlocks().best(0), 16);
        due("best(1) of nothing", new RiceBlocks().best(1), 0);
        due("best(0) of one", holding(5).best(0), 16);
        // With two gaps in a block 29 bits, with one 5 and 21.
        RiceBlocks one = holding(0, 40000);
        due("best(0), the least", one.best(0), 1);
        due("best(1), the least", one.best(1), 26);
        RiceBlocks full = counting(0, 64);
        due("best(0) of 64", full.best(0), 16);
        due("best(1) of 64", full.best(1), 80);
        // 17 gaps of 0 are two blocks with 9 to 16 gaps in a block, 33 are three with 11 to 16.
        due("best(0) of 17", counting(0, 17).best(0), 16);
        due("best(1) of 17", counting(0, 17).best(1), 25);
    }

    @Says(promise = 15, words = "Finds the BLOCK by which the stream would have the fewest bits")
    private static void eachBlockCanBeTheBest() {
        for (int zeros = 1; zeros <= 16; zeros++) {
            // Only by this BLOCK a block ends just ahead of the two great gaps, and no other is cut off.
            RiceBlocks x = counting(0, zeros);
            x.putIn(40000);
            x.putIn(65535);
            due("best(0) with gaps of 0: " + zeros, x.best(0), zeros);
            due("best(1) with gaps of 0: " + zeros, x.best(1), x.with(BLOCK, zeros));
        }
    }

    @Says(promise = 15, words = "BAD_VALUE if what is neither 0 nor 1")
    private static void bestRefusesOtherQuestions() {
        for (int what : new int[] {-1, 2, MIN, MAX}) {
            due("best(" + what + ")", example().best(what), BAD_VALUE);
            due("best(" + what + ") of nothing", new RiceBlocks().best(what), BAD_VALUE);
        }
    }

    @Says(promise = 16, words = "Returns 1 if it is")
    private static void theStreamIsTheRow() {
        due("check() of nothing", new RiceBlocks().check(), 1);
        due("check() of 0", holding(0).check(), 1);
        due("check() of 65535", holding(65535).check(), 1);
        due("check() of many ones", manyOnes().check(), 1);
        due("check() of a full row", counting(65472, 64).check(), 1);
        RiceBlocks far = new RiceBlocks();
        for (int i = 0; i < 64; i++) {
            far.putIn(i * 1040);
        }
        for (int setting = 0; setting <= 1; setting++) {
            for (int value = 1; value <= (setting == BLOCK ? 16 : 30); value++) {
                far.set(setting, value);
                due("check() with " + setting + ", " + value, far.check(), 1);
            }
        }
    }

    // ---- promises 17 to 20: texts

    @Says(promise = 17, words = "its lowest 8 bits are the last character, the next 8 bits the one before, and so on")
    private static void theLowestBitsAreTheLastCharacter() {
        RiceBlocks x = new RiceBlocks();
        due("put(\"+12,3;-3\")", x.put(0x2B31322C333B2D33L), 8);
        due("fault()", x.fault(), NONE);
        due("carryOut()", x.carryOut(), 2);
        dueRow(x, 12);
        RiceBlocks y = new RiceBlocks();
        due("put(\"5+\")", y.put(0x352BL), 2);
        due("fault()", y.fault(), 0);
        y.wipe();
        due("put(\"+5\")", y.put(0x2B35L), 2);
        due("fault()", y.fault(), NONE);
    }

    @Says(promise = 17, words = "`characters`: 1 to 8 characters")
    private static void fromOneToEightCharactersGoIn() {
        RiceBlocks x = new RiceBlocks();
        int length = 0;
        for (int many = 1; many <= 8; many++) {
            length += many;
            due("put of " + many, x.put(packed("7".repeat(many))), length);
        }
        due("count(8)", x.count(8), 36);
    }

    @Says(promise = 17, words = "BAD_VALUE if there is no character")
    private static void noCharacterIsRefused() {
        RiceBlocks x = new RiceBlocks();
        due("put(0)", x.put(0), BAD_VALUE);
        write(x, "1".repeat(80));
        due("put(0) on a full pad", x.put(0), BAD_VALUE);
    }

    @Says(promise = 17, words = "a code is not 33 to 126")
    private static void otherCodesAreRefused() {
        for (int ahead = 0; ahead < 8; ahead++) {
            long others = packed("1".repeat(8)) & ~(255L << 8 * ahead);
            RiceBlocks x = new RiceBlocks();
            for (int code : new int[] {1, 31, 32, 127, 128, 161, 254, 255}) {
                due("put of " + code + " at " + ahead, x.put(others | (long) code << 8 * ahead), BAD_VALUE);
            }
            due("put of 33 at " + ahead, x.put(others | 33L << 8 * ahead), 8);
            due("put of 126 at " + ahead, x.put(others | 126L << 8 * ahead), 16);
        }
        RiceBlocks one = new RiceBlocks();
        for (int code : new int[] {1, 32, 127, 128, 255}) {
            due("put of " + code, one.put(code), BAD_VALUE);
        }
        due("put of 33", one.put(33), 1);
        due("put of 126", one.put(126), 2);
    }

    @Says(promise = 17, words = "or a bit above 8 bits that are 0 is not 0")
    private static void nothingStandsAboveZeros() {
        RiceBlocks x = new RiceBlocks();
        for (int many = 0; many < 7; many++) {
            long below = packed("1".repeat(many));
            for (int bit = 8 * many + 8; bit < 64; bit++) {
                due("put of " + many + " and bit " + bit, x.put(below | 1L << bit), BAD_VALUE);
            }
        }
        due("put with a character above zeros", x.put(0x31003131L), BAD_VALUE);
        due("count(8)", x.count(8), 0);
        due("put(min)", x.put(Long.MIN_VALUE), BAD_VALUE);
        due("put(-1)", x.put(-1), BAD_VALUE);
        due("put(max)", x.put(Long.MAX_VALUE), BAD_VALUE);
    }

    @Says(promise = 17, words = "TOO_MANY if the pad would be longer than 80")
    private static void thePadIsNotLongerThanEighty() {
        for (int ahead = 70; ahead <= 80; ahead++) {
            for (int more = 1; more <= 8; more++) {
                RiceBlocks x = new RiceBlocks();
                write(x, "1".repeat(ahead));
                int length = ahead + more <= 80 ? ahead + more : TOO_MANY;
                due("put of " + more + " behind " + ahead, x.put(packed("2".repeat(more))), length);
                due("count(8)", x.count(8), length == TOO_MANY ? ahead : length);
            }
        }
        RiceBlocks full = new RiceBlocks();
        write(full, "1".repeat(80));
        due("put of a code that is not one", full.put(32), BAD_VALUE);
        full.wipe();
        due("put into a pad that was wiped", full.put(packed("12345678")), 8);
    }

    @Says(promise = 18, words = "Empties the pad, and returns the length that it had.")
    private static void wipingEmptiesThePad() {
        RiceBlocks x = new RiceBlocks();
        due("wipe() of nothing", x.wipe(), 0);
        due("count(9)", x.count(9), 0);
        write(x, "1".repeat(80));
        due("wipe() of 80", x.wipe(), 80);
        due("wipe() again", x.wipe(), 0);
        due("fault()", x.fault(), 0);
        due("put(\"+1\")", x.put(packed("+1")), 2);
        due("fault()", x.fault(), NONE);
    }

    @Says(promise = 19, words = "NONE if there is none")
    private static void aWholeTextHasNoFault() {
        for (String text : new String[] {"+0", "-0", "b0", "o0", "+65535", "+1,1", "+1;+1", "-1;b2;o3;+4,5,6;-7"}) {
            dueFault(text, NONE);
        }
        dueFault("+" + "1,".repeat(39) + "1", NONE);
        dueFault("b4;".repeat(26) + "b4", NONE);
    }

    @Says(promise = 19, words = "Returns the fault of the pad")
    private static void askingForTheFaultLeavesThePad() {
        RiceBlocks x = new RiceBlocks();
        due("fault() of nothing", x.fault(), 0);
        write(x, "+1;");
        due("fault()", x.fault(), 3);
        due("fault() again", x.fault(), 3);
        due("put(\"-\")", x.put('-'), 4);
        due("fault()", x.fault(), 4);
        due("put(\"1\")", x.put('1'), 5);
        due("fault()", x.fault(), NONE);
        due("count(0)", x.count(0), 0);
        due("count(9)", x.count(9), 0);
    }

    @Says(promise = 20, words = "up to the first one that returns an error, and empties the pad")
    private static void ordersBehindTheRefusedOneAreLeft() {
        RiceBlocks x = new RiceBlocks();
        due("carryOut(), the first one refused", carried(x, "-1;+2;b2"), 0);
        dueRow(x);
        due("count(6)", x.count(6), 4);
        due("count(8)", x.count(8), 0);
        due("carryOut(), the second one refused", carried(x, "+2;b0;o3"), 1);
        dueRow(x, 2);
        due("count(7)", x.count(7), 8);
        due("count(8)", x.count(8), 0);
        due("carryOut(), the last one refused", carried(x, "o3;b2;+9,2"), 2);
        dueRow(x, 2, 9);
        due("count(8)", x.count(8), 0);
        due("carryOut(), none refused", carried(x, "-2;-9"), 2);
        due("count(8)", x.count(8), 0);
        due("carryOut() again", x.carryOut(), BAD_TEXT);
    }

    @Says(promise = 20, words = "Returns how many orders were carried out")
    private static void ordersAreCountedAndNotTheirNumbers() {
        RiceBlocks x = new RiceBlocks();
        due("carryOut() of one with ten numbers", carried(x, "+1,2,3,4,5,6,7,8,9,0"), 1);
        due("count(0)", x.count(0), 10);
        due("carryOut() of 27", carried(x, "b4;".repeat(26) + "b5"), 27);
        due("count(6)", x.count(6), 5);
        due("count(9)", x.count(9), 2);
    }

    @Says(promise = 20, words = "BAD_TEXT if the pad has a fault (then it stays)")
    private static void aFaultyPadStays() {
        RiceBlocks x = new RiceBlocks();
        due("carryOut() of an empty pad", x.carryOut(), BAD_TEXT);
        write(x, "+1;+2;");
        due("carryOut() of what ends too early", x.carryOut(), BAD_TEXT);
        due("count(8)", x.count(8), 6);
        due("count(0)", x.count(0), 0);
        due("count(9)", x.count(9), 0);
        write(x, "+3");
        due("carryOut() of all that is there then", x.carryOut(), 3);
        dueRow(x, 1, 2, 3);
        write(x, "-1;x");
        due("carryOut() of what has a bad character", x.carryOut(), BAD_TEXT);
        due("wipe()", x.wipe(), 4);
        dueRow(x, 1, 2, 3);
        due("count(9)", x.count(9), 1);
    }

    @Says(promise = 20, words = "This is a change (one, with all of them; also if none is carried out).")
    private static void allOrdersAreOneChange() {
        RiceBlocks x = new RiceBlocks();
        due("carryOut()", carried(x, "+1;+2;b3;o4;-1;+5;+6;+7"), 8);
        due("count(9)", x.count(9), 1);
        due("carryOut() of none", carried(x, "-1"), 0);
        due("count(9)", x.count(9), 2);
        due("undo()", x.undo(), 1);
        dueRow(x, 2, 5, 6, 7);
        due("undo()", x.undo(), 0);
        dueRow(x);
        due("count(6)", x.count(6), 4);
        due("count(7)", x.count(7), 8);
        due("undo()", x.undo(), NOT_POSSIBLE);
    }

    // ---- promises 21 to 23: undo, saving

    @Says(promise = 21, words = "NOT_POSSIBLE if there is none")
    private static void nothingIsUndoneWithoutAChange() {
        RiceBlocks x = new RiceBlocks();
        due("undo()", x.undo(), NOT_POSSIBLE);
        x.save(0);
        x.put('+');
        x.putIn(65536);
        due("undo() after what is no change", x.undo(), NOT_POSSIBLE);
        x.putIn(1);
        due("undo()", x.undo(), 0);
        due("undo() again", x.undo(), NOT_POSSIBLE);
        due("count(9)", x.count(9), 0);
        due("count(0)", x.count(0), 0);
    }

    @Says(promise = 21, words = "everything except the pad, the slots and the history is as it was before it")
    private static void undoLeavesThePadAndTheSlots() {
        RiceBlocks x = holding(1, 2);
        x.save(0);
        x.putIn(3);
        x.save(0);
        x.put(packed("+9"));
        due("undo()", x.undo(), 2);
        dueRow(x, 1, 2);
        due("count(8)", x.count(8), 2);
        due("restore(0)", x.restore(0), 3);
        dueRow(x, 1, 2, 3);
        due("carryOut()", x.carryOut(), 1);
        due("undo() of carryOut", x.undo(), 3);
        due("count(8), which stays empty", x.count(8), 0);
        dueRow(x, 1, 2, 3);
        x.set(BLOCK, 1);
        x.set(ONES, 1);
        x.undo();
        due("count(7)", x.count(7), 8);
        x.undo();
        due("count(6)", x.count(6), 4);
        dueStream(x, "0000", "10", "0", "0");
    }

    @Says(promise = 21, words = "A history of at most 6 states is kept")
    private static void sixChangesCanBeUndone() {
        RiceBlocks x = new RiceBlocks();
        for (int i = 1; i <= 6; i++) {
            x.set(ONES, i);
            due("count(9)", x.count(9), i);
        }
        for (int i = 5; i >= 0; i--) {
            due("undo()", x.undo(), i);
            due("count(7)", x.count(7), i == 0 ? 8 : i);
        }
        due("undo()", x.undo(), NOT_POSSIBLE);
    }

    @Says(promise = 21, words = "when one more is recorded, the oldest one is dropped")
    private static void theOldestStateIsDropped() {
        for (int changes = 7; changes <= 30; changes++) {
            RiceBlocks x = new RiceBlocks();
            for (int i = 1; i <= changes; i++) {
                x.set(ONES, i);
            }
            due("count(9)", x.count(9), 6);
            for (int i = 5; i >= 0; i--) {
                due("undo()", x.undo(), i);
                due("count(7)", x.count(7), changes - 6 + i);
            }
            due("undo()", x.undo(), NOT_POSSIBLE);
            due("count(7)", x.count(7), changes - 6);
        }
    }

    @Says(promise = 21, words = "Undoes the latest change")
    private static void changesBehindAnUndoAreUndoneFirst() {
        RiceBlocks x = new RiceBlocks();
        for (int i = 1; i <= 10; i++) {
            x.putIn(i);
        }
        for (int i = 5; i >= 3; i--) {
            due("undo()", x.undo(), i);
        }
        for (int i = 101; i <= 105; i++) {
            x.putIn(i);
        }
        due("count(0)", x.count(0), 12);
        for (int i = 5; i >= 1; i--) {
            due("undo()", x.undo(), i);
            due("count(0)", x.count(0), 6 + i);
        }
        dueRow(x, 1, 2, 3, 4, 5, 6, 7);
        due("undo()", x.undo(), 0);
        dueRow(x, 1, 2, 3, 4, 5, 6);
        due("undo()", x.undo(), NOT_POSSIBLE);
    }

    @Says(promise = 21, words = "(also if nothing is different then)")
    private static void changesWithoutADifferenceAreRecorded() {
        RiceBlocks x = new RiceBlocks();
        x.save(0);
        due("set(BLOCK, 4)", x.set(BLOCK, 4), 4);
        due("set(ONES, 8)", x.set(ONES, 8), 8);
        due("restore(0)", x.restore(0), 0);
        due("carryOut()", carried(x, "-1"), 0);
        due("count(9)", x.count(9), 4);
        x.putIn(5);
        due("shift(0, 0)", x.shift(0, 0), 8);
        due("count(9)", x.count(9), 6);
        due("undo()", x.undo(), 5);
        dueRow(x, 5);
        due("undo()", x.undo(), 4);
        dueRow(x);
        due("undo()", x.undo(), 3);
        due("undo()", x.undo(), 2);
        due("undo()", x.undo(), 1);
        due("undo()", x.undo(), 0);
        due("undo()", x.undo(), NOT_POSSIBLE);
    }

    @Says(promise = 21, words = "each method that is a change, and returns no error, records the state before it")
    private static void refusedChangesAreNotRecorded() {
        RiceBlocks x = holding(1, 2);
        x.putIn(1);
        x.takeOut(3);
        x.shift(1, -1);
        x.shift(2, 0);
        x.set(2, 2);
        x.carryOut();
        x.restore(0);
        x.restore(2);
        due("count(9)", x.count(9), 2);
        due("undo()", x.undo(), 1);
        dueRow(x, 1);
        // A refused change between two others does not take the place of a state.
        x.putIn(7);
        x.putIn(7);
        due("undo()", x.undo(), 1);
        dueRow(x, 1);
        x.putIn(1);
        due("undo()", x.undo(), 0);
        dueRow(x);
    }

    @Says(promise = 21, words = "An order of a text records nothing by itself.")
    private static void ordersRecordNothing() {
        RiceBlocks x = holding(1);
        due("carryOut()", carried(x, "+2;+3;+4;+5;+6;+7;+8"), 7);
        due("count(9)", x.count(9), 2);
        due("undo()", x.undo(), 1);
        dueRow(x, 1);
        due("undo()", x.undo(), 0);
        dueRow(x);
    }

    @Says(promise = 22, words = "Saves everything except the pad, the history and the slots in a slot, and overwrites what was saved there.")
    private static void theNewestSaveCounts() {
        RiceBlocks x = new RiceBlocks();
        due("save(0) of nothing", x.save(0), 0);
        x.putIn(1);
        x.set(BLOCK, 16);
        x.set(ONES, 30);
        x.put('+');
        due("save(1)", x.save(1), 1);
        x.wipe();
        x.putIn(2);
        due("save(0) over what was there", x.save(0), 2);
        due("count(9), as save is no change", x.count(9), 4);
        x.set(BLOCK, 1);
        x.set(ONES, 1);
        x.takeOut(1);
        due("restore(1)", x.restore(1), 1);
        dueRow(x, 1);
        due("count(6)", x.count(6), 16);
        due("count(7)", x.count(7), 30);
        due("count(8), as the pad is not saved", x.count(8), 0);
        due("restore(0)", x.restore(0), 2);
        dueRow(x, 1, 2);
        // A row that is shorter than what was saved ahead of it.
        x.takeOut(1);
        due("save(0)", x.save(0), 1);
        x.putIn(9);
        due("restore(0)", x.restore(0), 1);
        dueRow(x, 2);
    }

    @Says(promise = 22, words = "BAD_VALUE if there is no such slot")
    private static void saveRefusesOtherSlots() {
        RiceBlocks x = holding(1);
        for (int slot : new int[] {-1, 2, 3, MIN, MAX}) {
            due("save(" + slot + ")", x.save(slot), BAD_VALUE);
        }
        due("restore(0)", x.restore(0), NOT_POSSIBLE);
        due("restore(1)", x.restore(1), NOT_POSSIBLE);
        due("save(0)", x.save(0), 1);
        due("restore(1)", x.restore(1), NOT_POSSIBLE);
        due("save(1)", x.save(1), 1);
        due("restore(1)", x.restore(1), 1);
    }

    @Says(promise = 22, words = "Returns how many numbers there are")
    private static void fullRowsAreSaved() {
        RiceBlocks x = counting(0, 64);
        due("save(0)", x.save(0), 64);
        x.shift(0, 65472);
        due("save(1)", x.save(1), 64);
        due("restore(0)", x.restore(0), 64);
        due("at(63, 0)", x.at(63, 0), 63);
        due("restore(1)", x.restore(1), 64);
        due("at(63, 0)", x.at(63, 0), 65535);
        due("at(0, 0)", x.at(0, 0), 65472);
        due("count(2)", x.count(2), x.with(BLOCK, 4));
    }

    @Says(promise = 23, words = "Restores what was saved last in a slot, which keeps it. This is a change.")
    private static void aSlotKeepsWhatItHolds() {
        RiceBlocks x = holding(1, 2);
        x.save(1);
        x.takeOut(1);
        x.takeOut(2);
        due("restore(1)", x.restore(1), 2);
        due("count(9)", x.count(9), 5);
        x.takeOut(2);
        due("restore(1) again", x.restore(1), 2);
        dueRow(x, 1, 2);
        due("undo()", x.undo(), 5);
        dueRow(x, 1);
        due("restore(1) after undo", x.restore(1), 2);
        dueRow(x, 1, 2);
        dueStream(x, "0000", "10", "0");
    }

    @Says(promise = 23, words = "BAD_VALUE if there is no such slot")
    private static void restoreRefusesOtherSlots() {
        RiceBlocks x = holding(1);
        for (int slot : new int[] {-1, 2, 3, MIN, MAX}) {
            due("restore(" + slot + ") with nothing saved", x.restore(slot), BAD_VALUE);
        }
        x.save(0);
        x.save(1);
        for (int slot : new int[] {-1, 2, 3, MIN, MAX}) {
            due("restore(" + slot + ")", x.restore(slot), BAD_VALUE);
        }
        due("count(9)", x.count(9), 1);
    }

    @Says(promise = 23, words = "NOT_POSSIBLE if nothing was saved in it")
    private static void restoreRefusesAnUnusedSlot() {
        RiceBlocks x = holding(1);
        due("restore(0)", x.restore(0), NOT_POSSIBLE);
        x.save(1);
        due("restore(0), when only 1 is saved", x.restore(0), NOT_POSSIBLE);
        due("restore(1)", x.restore(1), 1);
        RiceBlocks y = new RiceBlocks();
        y.save(0);
        y.putIn(1);
        due("restore(1), when only 0 is saved", y.restore(1), NOT_POSSIBLE);
        due("restore(0) of an empty row", y.restore(0), 0);
        dueRow(y);
        due("undo()", y.undo(), 1);
        due("undo()", y.undo(), 0);
        due("restore(0), which no undo takes away", y.restore(0), 0);
    }
}
