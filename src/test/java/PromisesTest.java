/** For each promise of the document a test: ordinary inputs, the edges that it names, and wrong inputs in their order. */
public final class PromisesTest {
    private static final int NO_SUCH = -1, BAD_VALUE = -2, BAD_TEXT = -3, TOO_MANY = -4, NOT_POSSIBLE = -5, NONE = -6;
    private static int wrong = 0;
    private static String promise = "";

    public static void main(String[] args) {
        constants();
        aNewObject();
        set();
        putIn();
        takeOut();
        shift();
        gap();
        block();
        bit();
        bits();
        count();
        at();
        find();
        cost();
        with();
        best();
        bestIsTheGreatestOfEqualOnes();
        exponentIsTheLeastOfEqualOnes();
        escapes();
        check();
        put();
        wipe();
        fault();
        carryOut();
        undo();
        undoKeepsSixStates();
        save();
        restore();
        errorsChangeNothing();
        theReadme();
        System.out.println(wrong == 0 ? "all promises hold" : wrong + " answers are wrong");
        if (wrong != 0) {
            System.exit(1);
        }
    }

    private static void due(String call, long got, long want) {
        if (got != want) {
            wrong++;
            System.out.println(promise + ": " + call + " answered " + got + ", due is " + want);
        }
    }

    private static RiceBlocks holding(int... numbers) {
        RiceBlocks x = new RiceBlocks();
        for (int number : numbers) {
            x.putIn(number);
        }
        return x;
    }

    // Gaps 3, 1, 0, 33 with exponent 3 in 24 bits, and 959 with exponent 9 in 15.
    private static RiceBlocks example() {
        return holding(3, 5, 6, 40, 1000);
    }

    private static long packed(String text) {
        long packed = 0;
        for (char c : text.toCharArray()) {
            packed = packed << 8 | c;
        }
        return packed;
    }

    private static void write(RiceBlocks x, String text) {
        for (int i = 0; i < text.length(); i += 8) {
            x.put(packed(text.substring(i, Math.min(text.length(), i + 8))));
        }
    }

    private static void row(RiceBlocks x, int... numbers) {
        due("count(0)", x.count(0), numbers.length);
        for (int i = 0; i < numbers.length; i++) {
            due("at(" + i + ", 0)", x.at(i, 0), numbers[i]);
        }
        due("check()", x.check(), 1);
    }

    private static void stream(RiceBlocks x, String bits) {
        due("count(2)", x.count(2), bits.length());
        for (int i = 0; i < bits.length(); i++) {
            due("bit(" + i + ")", x.bit(i), bits.charAt(i) - '0');
        }
        due("bit(" + bits.length() + ")", x.bit(bits.length()), NO_SUCH);
    }

    private static void constants() {
        promise = "the constants";
        due("NO_SUCH", RiceBlocks.NO_SUCH, -1);
        due("BAD_VALUE", RiceBlocks.BAD_VALUE, -2);
        due("BAD_TEXT", RiceBlocks.BAD_TEXT, -3);
        due("TOO_MANY", RiceBlocks.TOO_MANY, -4);
        due("NOT_POSSIBLE", RiceBlocks.NOT_POSSIBLE, -5);
        due("NONE", RiceBlocks.NONE, -6);
        due("BLOCK", RiceBlocks.BLOCK, 0);
        due("ONES", RiceBlocks.ONES, 1);
    }

    private static void aNewObject() {
        promise = "promise 1";
        RiceBlocks x = new RiceBlocks();
        int[] counts = {0, 0, 0, 0, 0, NONE, 4, 8, 0, 0};
        for (int what = 0; what < counts.length; what++) {
            due("count(" + what + ")", x.count(what), counts[what]);
        }
        due("at(0, 0)", x.at(0, 0), NO_SUCH);
        due("block(0, 0)", x.block(0, 0), NO_SUCH);
        due("undo()", x.undo(), NOT_POSSIBLE);
        due("restore(0)", x.restore(0), NOT_POSSIBLE);
        due("restore(1)", x.restore(1), NOT_POSSIBLE);
        x.putIn(7);
        due("another object's count(0)", new RiceBlocks().count(0), 0);
    }

    private static void set() {
        promise = "promise 2";
        RiceBlocks x = example();
        due("set(BLOCK, 1)", x.set(RiceBlocks.BLOCK, 1), 4);
        due("set(BLOCK, 16)", x.set(RiceBlocks.BLOCK, 16), 1);
        due("set(BLOCK, 3)", x.set(RiceBlocks.BLOCK, 3), 16);
        due("count(1)", x.count(1), 2);
        due("count(6)", x.count(6), 3);
        due("set(ONES, 1)", x.set(RiceBlocks.ONES, 1), 8);
        due("set(ONES, 30)", x.set(RiceBlocks.ONES, 30), 1);
        due("set(ONES, 2)", x.set(RiceBlocks.ONES, 2), 30);
        due("count(7)", x.count(7), 2);
        due("count(9)", x.count(9), 6);
        row(x, 3, 5, 6, 40, 1000);
        RiceBlocks y = new RiceBlocks();
        due("set(-1, 1)", y.set(-1, 1), BAD_VALUE);
        due("set(2, 1)", y.set(2, 1), BAD_VALUE);
        due("set(BLOCK, 0)", y.set(0, 0), BAD_VALUE);
        due("set(BLOCK, 17)", y.set(0, 17), BAD_VALUE);
        due("set(ONES, 0)", y.set(1, 0), BAD_VALUE);
        due("set(ONES, 31)", y.set(1, 31), BAD_VALUE);
        due("set(BLOCK, min)", y.set(0, Integer.MIN_VALUE), BAD_VALUE);
        due("set(ONES, max)", y.set(1, Integer.MAX_VALUE), BAD_VALUE);
        due("count(9)", y.count(9), 0);
        due("set(BLOCK, 4) to what it is", y.set(0, 4), 4);
        due("count(9)", y.count(9), 1);
    }

    private static void putIn() {
        promise = "promise 3";
        RiceBlocks x = new RiceBlocks();
        due("putIn(500)", x.putIn(500), 0);
        due("putIn(65535)", x.putIn(65535), 1);
        due("putIn(0)", x.putIn(0), 0);
        due("putIn(499)", x.putIn(499), 1);
        due("putIn(501)", x.putIn(501), 3);
        row(x, 0, 499, 500, 501, 65535);
        due("putIn(-1)", x.putIn(-1), BAD_VALUE);
        due("putIn(65536)", x.putIn(65536), BAD_VALUE);
        due("putIn(min)", x.putIn(Integer.MIN_VALUE), BAD_VALUE);
        due("putIn(0)", x.putIn(0), NOT_POSSIBLE);
        due("putIn(500)", x.putIn(500), NOT_POSSIBLE);
        due("putIn(65535)", x.putIn(65535), NOT_POSSIBLE);
        RiceBlocks full = new RiceBlocks();
        for (int i = 0; i < 64; i++) {
            due("putIn(" + 2 * i + ")", full.putIn(2 * i), i);
        }
        due("putIn(1) as the 65th", full.putIn(1), TOO_MANY);
        due("putIn(0), in the row", full.putIn(0), TOO_MANY);
        due("putIn(65536)", full.putIn(65536), BAD_VALUE);
        due("count(0)", full.count(0), 64);
        due("takeOut(0)", full.takeOut(0), 0);
        due("putIn(1)", full.putIn(1), 0);
    }

    private static void takeOut() {
        promise = "promise 4";
        RiceBlocks x = holding(0, 10, 20, 30, 65535);
        due("takeOut(20)", x.takeOut(20), 2);
        due("takeOut(65535)", x.takeOut(65535), 3);
        due("takeOut(0)", x.takeOut(0), 0);
        row(x, 10, 30);
        due("takeOut(-1)", x.takeOut(-1), BAD_VALUE);
        due("takeOut(65536)", x.takeOut(65536), BAD_VALUE);
        due("takeOut(20)", x.takeOut(20), NO_SUCH);
        due("takeOut(31)", x.takeOut(31), NO_SUCH);
        due("takeOut(30)", x.takeOut(30), 1);
        due("takeOut(10)", x.takeOut(10), 0);
        row(x);
        due("takeOut(10)", x.takeOut(10), NO_SUCH);
        due("count(2)", x.count(2), 0);
    }

    private static void shift() {
        promise = "promise 5";
        RiceBlocks x = holding(10, 20, 30);
        due("shift(1, -9)", x.shift(1, -9), x.count(2));
        row(x, 10, 11, 21);
        due("shift(1, -1)", x.shift(1, -1), NOT_POSSIBLE);
        due("shift(0, -11)", x.shift(0, -11), NOT_POSSIBLE);
        // Gaps 0, 0, 9: 30, 14, 15 bits with the exponents 0, 1, 2.
        due("shift(0, -10)", x.shift(0, -10), 14);
        due("block(0, 0)", x.block(0, 0), 1);
        row(x, 0, 1, 11);
        due("shift(2, 65524)", x.shift(2, 65524), x.count(2));
        row(x, 0, 1, 65535);
        due("shift(2, 1)", x.shift(2, 1), NOT_POSSIBLE);
        due("shift(0, 1)", x.shift(0, 1), NOT_POSSIBLE);
        due("shift(2, -65533)", x.shift(2, -65533), 7);
        due("shift(2, -65535)", x.shift(2, -65535), NOT_POSSIBLE);
        row(x, 0, 1, 2);
        due("shift(-1, 0)", x.shift(-1, 0), NO_SUCH);
        due("shift(3, 65536)", x.shift(3, 65536), NO_SUCH);
        due("shift(0, 65536)", x.shift(0, 65536), BAD_VALUE);
        due("shift(0, -65536)", x.shift(0, -65536), BAD_VALUE);
        due("shift(0, min)", x.shift(0, Integer.MIN_VALUE), BAD_VALUE);
        due("shift(0, 65535)", x.shift(0, 65535), NOT_POSSIBLE);
        RiceBlocks y = holding(0);
        due("shift(0, 65535)", y.shift(0, 65535), 21);
        due("shift(0, 0)", y.shift(0, 0), 21);
        due("shift(0, -65535)", y.shift(0, -65535), 5);
        due("count(9)", y.count(9), 4);
        due("shift of an empty row", new RiceBlocks().shift(0, 0), NO_SUCH);
    }

    private static void gap() {
        promise = "promise 6";
        RiceBlocks x = example();
        int[][] gaps = {{3, 0, 4, 0, 4}, {1, 0, 4, 0, 8}, {0, 0, 4, 0, 12}, {33, 0, 8, 0, 16}, {959, 1, 11, 0, 28}};
        for (int place = 0; place < 5; place++) {
            for (int what = 0; what < 5; what++) {
                due("gap(" + place + ", " + what + ")", x.gap(place, what), gaps[place][what]);
            }
        }
        due("gap(5, 0)", x.gap(5, 0), NO_SUCH);
        due("gap(-1, 9)", x.gap(-1, 9), NO_SUCH);
        due("gap(0, 5)", x.gap(0, 5), BAD_VALUE);
        due("gap(0, -1)", x.gap(0, -1), BAD_VALUE);
        // Gaps 3, 1, 0, 33 with two ones: 29 bits with exponent 1 and with 5, more with all others.
        x.set(RiceBlocks.ONES, 2);
        due("block(0, 0)", x.block(0, 0), 1);
        due("gap(3, 3)", x.gap(3, 3), 1);
        due("gap(3, 2)", x.gap(3, 2), 18);
        due("gap(0, 2)", x.gap(0, 2), 3);
    }

    private static void block() {
        promise = "promise 7";
        RiceBlocks x = example();
        int[][] blocks = {{3, 4, 24, 0, 0, 0, 33}, {9, 1, 15, 24, 41, 0, 959}};
        for (int block = 0; block < 2; block++) {
            for (int what = 0; what < 7; what++) {
                due("block(" + block + ", " + what + ")", x.block(block, what), blocks[block][what]);
            }
        }
        due("block(2, 0)", x.block(2, 0), NO_SUCH);
        due("block(-1, 7)", x.block(-1, 7), NO_SUCH);
        due("block(0, 7)", x.block(0, 7), BAD_VALUE);
        due("block(0, -1)", x.block(0, -1), BAD_VALUE);
        x.set(RiceBlocks.BLOCK, 1);
        due("block(4, 3)", x.block(4, 3), x.count(2) - 15);
        due("block(4, 4)", x.block(4, 4), 41);
        due("block(5, 0)", x.block(5, 0), NO_SUCH);
        x.set(RiceBlocks.BLOCK, 5);
        due("block(0, 1)", x.block(0, 1), 5);
        due("block(0, 6)", x.block(0, 6), 959);
        due("block(1, 0)", x.block(1, 0), NO_SUCH);
    }

    private static void bit() {
        promise = "promise 8";
        RiceBlocks x = example();
        stream(x, "0011" + "0011" + "0001" + "0000" + "11110001" + "1001" + "10110111111");
        due("bit(-1)", x.bit(-1), NO_SUCH);
        due("bit(max)", x.bit(Integer.MAX_VALUE), NO_SUCH);
        due("bit(min)", x.bit(Integer.MIN_VALUE), NO_SUCH);
        x.takeOut(1000);
        stream(x, "0011" + "0011" + "0001" + "0000" + "11110001");
    }

    private static void bits() {
        promise = "promise 9";
        RiceBlocks x = example();
        due("bits(0)", x.bits(0), 0b00110011000100001111000110011011L);
        due("bits(7)", x.bits(7), 0b10001000011110001100110110111111L);
        due("bits(8)", x.bits(8), 0b00010000111100011001101101111110L);
        due("bits(24)", x.bits(24), 0b10011011011111100000000000000000L);
        due("bits(38)", x.bits(38), 0b10000000000000000000000000000000L);
        due("bits(39)", x.bits(39), -1);
        due("bits(-1)", x.bits(-1), -1);
        due("bits(max)", x.bits(Integer.MAX_VALUE), -1);
        x.takeOut(1000);
        due("bits behind a stream that was longer", x.bits(16), 0b11110001000000000000000000000000L);
        due("bits(24)", x.bits(24), -1);
    }

    private static void count() {
        promise = "promise 10";
        RiceBlocks x = example();
        write(x, "+1");
        int[] counts = {5, 2, 39, 0, 80, 9, 4, 8, 2, 5};
        for (int what = 0; what < counts.length; what++) {
            due("count(" + what + ")", x.count(what), counts[what]);
        }
        due("count(-1)", x.count(-1), BAD_VALUE);
        due("count(10)", x.count(10), BAD_VALUE);
        RiceBlocks y = holding(0, 1, 2, 3, 40000);
        y.set(RiceBlocks.ONES, 1);
        y.set(RiceBlocks.BLOCK, 5);
        due("count(3)", y.count(3), 1);
        due("count(5)", y.count(5), 0);
        due("count(1)", y.count(1), 1);
        y.set(RiceBlocks.BLOCK, 4);
        due("count(1)", y.count(1), 2);
        y.takeOut(40000);
        due("count(1)", y.count(1), 1);
    }

    private static void at() {
        promise = "promise 11";
        RiceBlocks x = example();
        int[][] at = {{3, 8}, {5, 12}, {6, 16}, {40, 24}, {1000, 15}};
        for (int place = 0; place < 5; place++) {
            due("at(" + place + ", 0)", x.at(place, 0), at[place][0]);
            due("at(" + place + ", 1)", x.at(place, 1), at[place][1]);
        }
        due("at(5, 0)", x.at(5, 0), NO_SUCH);
        due("at(-1, 2)", x.at(-1, 2), NO_SUCH);
        due("at(0, 2)", x.at(0, 2), BAD_VALUE);
        due("at(0, -1)", x.at(0, -1), BAD_VALUE);
    }

    private static void find() {
        promise = "promise 12";
        RiceBlocks x = example();
        int[][] asked = {{0, 0, 0, 0, 8}, {3, 0, 1, 0, 8}, {4, 1, 0, 0, 12}, {5, 1, 1, 0, 12}, {7, 3, 0, 0, 24},
            {40, 3, 1, 0, 24}, {41, 4, 0, 1, 15}, {1000, 4, 1, 1, 15}, {1001, 5, 0, 1, 15}, {65535, 5, 0, 1, 15}};
        for (int[] row : asked) {
            for (int what = 0; what < 4; what++) {
                due("find(" + row[0] + ", " + what + ")", x.find(row[0], what), row[what + 1]);
            }
        }
        due("find(-1, 0)", x.find(-1, 0), BAD_VALUE);
        due("find(65536, 0)", x.find(65536, 0), BAD_VALUE);
        due("find(0, -1)", x.find(0, -1), BAD_VALUE);
        due("find(0, 4)", x.find(0, 4), BAD_VALUE);
        RiceBlocks y = holding(1, 2, 3, 4, 5);
        due("find(9, 3), to the end of a block", y.find(9, 3), 5);
        y.takeOut(5);
        due("find(9, 0)", y.find(9, 0), 4);
        due("find(9, 2)", y.find(9, 2), 0);
        due("find(9, 3)", y.find(9, 3), y.count(2));
        RiceBlocks none = new RiceBlocks();
        int[] empty = {0, 0, NONE, 0};
        for (int what = 0; what < 4; what++) {
            due("find(7, " + what + ") without numbers", none.find(7, what), empty[what]);
        }
        due("find(7, 4) without numbers", none.find(7, 4), BAD_VALUE);
        due("find(-1, 2) without numbers", none.find(-1, 2), BAD_VALUE);
    }

    private static void cost() {
        promise = "promise 13";
        RiceBlocks x = example();
        // 33 is an escape of 24 bits with the exponents 0 to 2.
        int[] first = {35, 35, 37, 24, 26, 29, 32, 36, 40};
        for (int exponent = 0; exponent < first.length; exponent++) {
            due("cost(0, " + exponent + ")", x.cost(0, exponent), first[exponent]);
        }
        due("cost(0, 15)", x.cost(0, 15), 68);
        due("cost(1, 0)", x.cost(1, 0), 28);
        due("cost(1, 9)", x.cost(1, 9), 15);
        due("cost(2, 0)", x.cost(2, 0), NO_SUCH);
        due("cost(-1, 16)", x.cost(-1, 16), NO_SUCH);
        due("cost(0, 16)", x.cost(0, 16), BAD_VALUE);
        due("cost(0, -1)", x.cost(0, -1), BAD_VALUE);
    }

    private static void with() {
        promise = "promise 14";
        RiceBlocks x = example();
        due("with(BLOCK, 4)", x.with(0, 4), 39);
        due("with(ONES, 8)", x.with(1, 8), 39);
        due("with(BLOCK, 1)", x.with(0, 1), 44);
        due("with(BLOCK, 16)", x.with(0, 16), 48);
        due("with(ONES, 1)", x.with(1, 1), 45);
        due("with(ONES, 2)", x.with(1, 2), 44);
        due("with(BLOCK, 0)", x.with(0, 0), BAD_VALUE);
        due("with(BLOCK, 17)", x.with(0, 17), BAD_VALUE);
        due("with(ONES, 0)", x.with(1, 0), BAD_VALUE);
        due("with(ONES, 31)", x.with(1, 31), BAD_VALUE);
        due("with(2, 1)", x.with(2, 1), BAD_VALUE);
        due("with(-1, 1)", x.with(-1, 1), BAD_VALUE);
        due("count(2)", x.count(2), 39);
        due("count(6)", x.count(6), 4);
        due("count(7)", x.count(7), 8);
        due("count(9)", x.count(9), 5);
        due("with(BLOCK, 5) without numbers", new RiceBlocks().with(0, 5), 0);
        due("with(ONES, 5) without numbers", new RiceBlocks().with(1, 5), 0);
        for (int value = 1; value <= 30; value++) {
            due("with against set", example().with(1, value), setAndCount(1, value));
        }
        for (int value = 1; value <= 16; value++) {
            due("with against set", example().with(0, value), setAndCount(0, value));
        }
    }

    private static int setAndCount(int setting, int value) {
        RiceBlocks x = example();
        x.set(setting, value);
        return x.count(2);
    }

    private static void best() {
        promise = "promise 15";
        RiceBlocks x = example();
        due("best(0)", x.best(0), 3);
        due("best(1)", x.best(1), 36);
        due("best(2)", x.best(2), BAD_VALUE);
        due("best(-1)", x.best(-1), BAD_VALUE);
        due("count(6)", x.count(6), 4);
        due("count(9)", x.count(9), 5);
        due("best(0) without numbers", new RiceBlocks().best(0), 16);
        due("best(1) without numbers", new RiceBlocks().best(1), 0);
    }

    private static void bestIsTheGreatestOfEqualOnes() {
        promise = "promise 15";
        RiceBlocks x = holding(0, 1, 2);
        due("best(0)", x.best(0), 16);
        due("best(1)", x.best(1), 7);
        RiceBlocks full = new RiceBlocks();
        for (int i = 0; i < 64; i++) {
            full.putIn(i);
        }
        due("best(0)", full.best(0), 16);
        due("best(1)", full.best(1), 80);
        due("with(BLOCK, 1)", full.with(0, 1), 320);
    }

    private static void exponentIsTheLeastOfEqualOnes() {
        promise = "the codes";
        RiceBlocks x = holding(1);
        due("cost(0, 0)", x.cost(0, 0), 6);
        due("cost(0, 1)", x.cost(0, 1), 6);
        due("block(0, 0)", x.block(0, 0), 0);
        stream(x, "0000" + "10");
        RiceBlocks y = holding(65535);
        stream(y, "1111" + "10" + "111111111111111");
    }

    private static void escapes() {
        promise = "the codes";
        RiceBlocks x = holding(0, 1, 2, 32771);
        due("set(ONES, 3)", x.set(RiceBlocks.ONES, 3), 8);
        stream(x, "0000" + "0" + "0" + "0" + "111" + "1000000000000000");
        due("block(0, 5)", x.block(0, 5), 1);
        due("gap(3, 3)", x.gap(3, 3), 1);
        due("gap(2, 3)", x.gap(2, 3), 0);
        due("at(3, 1)", x.at(3, 1), 26);
        row(x, 0, 1, 2, 32771);
        // As many ones as ONES are an escape, one less is a plain code.
        RiceBlocks y = holding(0, 1, 2, 5);
        y.set(RiceBlocks.ONES, 3);
        stream(y, "0000" + "0" + "0" + "0" + "110");
        y.shift(3, 1);
        due("gap(3, 0)", y.gap(3, 0), 3);
        due("cost(0, 0)", y.cost(0, 0), 26);
        due("block(0, 5)", y.block(0, 5), 0);
    }

    private static void check() {
        promise = "promise 16";
        due("check() without numbers", new RiceBlocks().check(), 1);
        due("check()", example().check(), 1);
        for (int ones = 1; ones <= 30; ones++) {
            RiceBlocks x = example();
            for (int size = 1; size <= 16; size++) {
                x.set(RiceBlocks.ONES, ones);
                x.set(RiceBlocks.BLOCK, size);
                due("check() with " + size + ", " + ones, x.check(), 1);
            }
        }
        RiceBlocks far = new RiceBlocks();
        for (int i = 0; i < 64; i++) {
            far.putIn(i * i * 16 + i);
        }
        for (int ones = 1; ones <= 30; ones++) {
            far.set(RiceBlocks.ONES, ones);
            due("check() with " + ones, far.check(), 1);
        }
    }

    private static void put() {
        promise = "promise 17";
        RiceBlocks x = new RiceBlocks();
        due("put(\"+\")", x.put('+'), 1);
        due("put(\"12345678\")", x.put(packed("12345678")), 9);
        due("put(\"!~\")", x.put(packed("!~")), 11);
        due("put(0)", x.put(0), BAD_VALUE);
        due("put of 32", x.put(32), BAD_VALUE);
        due("put of 127", x.put(127), BAD_VALUE);
        due("put of 255", x.put(255), BAD_VALUE);
        due("put(-1)", x.put(-1), BAD_VALUE);
        due("put(min)", x.put(Long.MIN_VALUE), BAD_VALUE);
        due("put of \"1\" above zeros", x.put((long) '1' << 8), BAD_VALUE);
        due("put with a gap", x.put((long) '1' << 16 | '1'), BAD_VALUE);
        due("put with a bit above zeros", x.put(1L << 63 | '1'), BAD_VALUE);
        due("put of 200 as the first of eight", x.put(200L << 56 | packed("2345678")), BAD_VALUE);
        due("count(8)", x.count(8), 11);
        due("fault()", x.fault(), 6);
        x.wipe();
        for (int i = 1; i <= 9; i++) {
            due("put(\"12345678\")", x.put(packed("12345678")), 8 * i);
        }
        due("put of seven", x.put(packed("1234567")), 79);
        due("put of two", x.put(packed("12")), TOO_MANY);
        due("put of a bad one", x.put(200), BAD_VALUE);
        due("put of one", x.put('1'), 80);
        due("put of one", x.put('1'), TOO_MANY);
        due("count(8)", x.count(8), 80);
        due("count(9)", x.count(9), 0);
    }

    private static void wipe() {
        promise = "promise 18";
        RiceBlocks x = new RiceBlocks();
        due("wipe()", x.wipe(), 0);
        write(x, "+1,2,3,4,5,6");
        due("wipe()", x.wipe(), 12);
        due("count(8)", x.count(8), 0);
        due("wipe()", x.wipe(), 0);
        due("carryOut()", x.carryOut(), BAD_TEXT);
        write(x, "+7");
        due("carryOut()", x.carryOut(), 1);
        row(x, 7);
    }

    private static void fault() {
        promise = "promise 19";
        String[] texts = {"", "+", "-", "b", "o", "+5,", "+5;", "+5,6;-", ",", ";", "5", "x", "B4", "++", "+,", "+;", "+-1",
            "+05", "+00", "+5,07", "-01", "b04", "+65536", "+65540", "+65600", "+66000", "+70000", "+655350", "+100000", "-5,6",
            "b5,6", "o5,6", "+5;;", "+5,,", "+5+", "+5-6", "+5b", "-5x", "+5;6", "+5,-6", "b4 "};
        int[] faults = {0, 1, 1, 1, 1, 3, 3, 6, 0, 0, 0, 0, 0, 1, 1, 1, 1,
            2, 2, 4, 2, 2, 5, 5, 5, 5, 5, 6, 6, 2,
            2, 2, 3, 3, 2, 2, 2, 2, 3, 3, NONE};
        for (int i = 0; i < texts.length; i++) {
            RiceBlocks x = new RiceBlocks();
            write(x, texts[i].trim());
            due("fault() of " + texts[i], x.fault(), faults[i]);
            due("carryOut() of " + texts[i], x.carryOut() == BAD_TEXT ? 1 : 0, faults[i] == NONE ? 0 : 1);
        }
        String[] good = {"+0", "+65535", "-0", "-65535", "b0", "b65535", "o0", "+1,2,3", "+0,0", "+1;-1;b1;o1", "+10,100,1000,10000",
            "-10;+59999,64999,65499,65529"};
        for (String text : good) {
            RiceBlocks x = new RiceBlocks();
            write(x, text);
            due("fault() of " + text, x.fault(), NONE);
        }
        RiceBlocks x = new RiceBlocks();
        write(x, "+1;-2");
        x.fault();
        due("count(8)", x.count(8), 5);
        due("count(0)", x.count(0), 0);
    }

    private static void carryOut() {
        promise = "promise 20";
        RiceBlocks x = new RiceBlocks();
        write(x, "+5,9,100;b2;o3;-9");
        due("carryOut()", x.carryOut(), 4);
        row(x, 5, 100);
        due("count(6)", x.count(6), 2);
        due("count(7)", x.count(7), 3);
        due("count(8)", x.count(8), 0);
        due("count(9)", x.count(9), 1);
        due("count(1)", x.count(1), 1);
        write(x, "+7;+8,5,9;b7");
        due("carryOut() up to the 5", x.carryOut(), 1);
        row(x, 5, 7, 8, 100);
        due("count(6)", x.count(6), 2);
        due("count(8)", x.count(8), 0);
        write(x, "b0;+1");
        due("carryOut() up to b0", x.carryOut(), 0);
        write(x, "b17");
        due("carryOut() up to b17", x.carryOut(), 0);
        write(x, "-6;+6");
        due("carryOut() up to -6", x.carryOut(), 0);
        due("count(9)", x.count(9), 5);
        row(x, 5, 7, 8, 100);
        write(x, "o30;o31;o1");
        due("carryOut() up to o31", x.carryOut(), 1);
        due("count(7)", x.count(7), 30);
        write(x, "+1,");
        due("carryOut()", x.carryOut(), BAD_TEXT);
        due("count(8)", x.count(8), 3);
        due("count(9)", x.count(9), 6);
        due("undo()", x.undo(), 5);
        due("count(7)", x.count(7), 3);
        due("count(8)", x.count(8), 3);
        due("carryOut() of an empty pad", new RiceBlocks().carryOut(), BAD_TEXT);
        RiceBlocks full = new RiceBlocks();
        for (int i = 0; i < 63; i++) {
            full.putIn(i);
        }
        write(full, "+100,101,102");
        due("carryOut() into 64 numbers", full.carryOut(), 0);
        due("count(0)", full.count(0), 64);
        due("undo()", full.undo(), 5);
        due("count(0)", full.count(0), 63);
        write(full, "-62;-61");
        due("carryOut()", full.carryOut(), 2);
        due("count(0)", full.count(0), 61);
    }

    private static void undo() {
        promise = "promise 21";
        RiceBlocks x = new RiceBlocks();
        x.putIn(5);
        x.set(RiceBlocks.BLOCK, 2);
        x.set(RiceBlocks.ONES, 3);
        x.shift(0, 10);
        due("undo() of shift", x.undo(), 3);
        row(x, 5);
        due("undo() of set", x.undo(), 2);
        due("count(7)", x.count(7), 8);
        due("undo() of set", x.undo(), 1);
        due("count(6)", x.count(6), 4);
        due("undo() of putIn", x.undo(), 0);
        row(x);
        due("undo()", x.undo(), NOT_POSSIBLE);
        x.putIn(5);
        x.takeOut(5);
        due("undo() of takeOut", x.undo(), 1);
        row(x, 5);
        x.save(0);
        x.takeOut(5);
        x.restore(0);
        due("undo() of restore", x.undo(), 2);
        row(x);
        write(x, "+8,9;-8");
        x.carryOut();
        write(x, "+1");
        due("undo() of carryOut", x.undo(), 2);
        row(x);
        due("the pad is not undone", x.count(8), 2);
        due("undo()", x.undo(), 1);
        row(x, 5);
        due("the slots are not undone", x.restore(0), 1);
        row(x, 5);
        due("count(9)", x.count(9), 2);
        x.putIn(77);
        due("undo()", x.undo(), 2);
        x.putIn(78);
        due("count(9)", x.count(9), 3);
        row(x, 5, 78);
        RiceBlocks y = holding(5, 9);
        y.takeOut(9);
        due("undo() of takeOut", y.undo(), 2);
        row(y, 5, 9);
    }

    private static void undoKeepsSixStates() {
        promise = "promise 21";
        RiceBlocks x = new RiceBlocks();
        for (int i = 1; i <= 20; i++) {
            x.putIn(i);
            due("count(9)", x.count(9), Math.min(6, i));
        }
        x.putIn(20);
        x.takeOut(40);
        x.set(0, 17);
        x.shift(0, -2);
        x.restore(0);
        x.carryOut();
        x.wipe();
        x.save(1);
        for (int i = 5; i >= 0; i--) {
            due("undo()", x.undo(), i);
            due("count(0)", x.count(0), 14 + i);
            due("check()", x.check(), 1);
        }
        due("undo()", x.undo(), NOT_POSSIBLE);
        due("count(0)", x.count(0), 14);
        for (int i = 0; i < 7; i++) {
            x.set(RiceBlocks.BLOCK, i + 1);
        }
        for (int i = 5; i >= 0; i--) {
            due("undo()", x.undo(), i);
            due("count(6)", x.count(6), i + 1);
        }
        due("undo()", x.undo(), NOT_POSSIBLE);
    }

    private static void save() {
        promise = "promise 22";
        RiceBlocks x = holding(5, 6);
        due("save(0)", x.save(0), 2);
        due("count(9)", x.count(9), 2);
        x.putIn(7);
        due("save(1)", x.save(1), 3);
        x.takeOut(5);
        x.takeOut(6);
        x.takeOut(7);
        due("restore(1)", x.restore(1), 3);
        row(x, 5, 6, 7);
        due("restore(0)", x.restore(0), 2);
        row(x, 5, 6);
        x.takeOut(5);
        due("save(0) over what was there", x.save(0), 1);
        x.putIn(9);
        due("restore(0)", x.restore(0), 1);
        row(x, 6);
        due("save(-1)", x.save(-1), BAD_VALUE);
        due("save(2)", x.save(2), BAD_VALUE);
        RiceBlocks none = new RiceBlocks();
        due("save(1) of nothing", none.save(1), 0);
        none.putIn(4);
        due("restore(1) of nothing", none.restore(1), 0);
        row(none);
    }

    private static void restore() {
        promise = "promise 23";
        RiceBlocks x = holding(5, 6, 70);
        x.set(RiceBlocks.BLOCK, 2);
        x.set(RiceBlocks.ONES, 3);
        x.save(1);
        write(x, "+1");
        x.set(RiceBlocks.BLOCK, 9);
        x.set(RiceBlocks.ONES, 9);
        x.takeOut(6);
        due("restore(1)", x.restore(1), 3);
        row(x, 5, 6, 70);
        due("count(6)", x.count(6), 2);
        due("count(7)", x.count(7), 3);
        due("count(1)", x.count(1), 2);
        due("count(8)", x.count(8), 2);
        due("count(9)", x.count(9), 6);
        x.putIn(8);
        due("restore(1), which kept it", x.restore(1), 3);
        row(x, 5, 6, 70);
        due("restore(0)", x.restore(0), NOT_POSSIBLE);
        due("restore(-1)", x.restore(-1), BAD_VALUE);
        due("restore(2)", x.restore(2), BAD_VALUE);
        due("undo()", x.undo(), 5);
        row(x, 5, 6, 8, 70);
    }

    private static void errorsChangeNothing() {
        promise = "an error changes nothing";
        RiceBlocks x = example();
        write(x, "+3;");
        long before = x.bits(0);
        x.putIn(3);
        x.putIn(-1);
        x.takeOut(4);
        x.takeOut(70000);
        x.shift(9, 0);
        x.shift(0, 65535);
        x.set(2, 2);
        x.set(1, 31);
        x.put(-1);
        x.carryOut();
        x.restore(0);
        x.restore(3);
        x.save(9);
        due("bits(0)", x.bits(0), before);
        due("count(8)", x.count(8), 3);
        due("count(9)", x.count(9), 5);
        row(x, 3, 5, 6, 40, 1000);
        due("undo()", x.undo(), 4);
        row(x, 3, 5, 6, 40);
    }

    private static void theReadme() {
        promise = "README.md";
        RiceBlocks x = holding(3, 5, 1000);
        due("count(2)", x.count(2), 33);
        due("find(5, 0)", x.find(5, 0), 1);
        due("at(2, 0)", x.at(2, 0), 1000);
        due("with(BLOCK, 2)", x.with(RiceBlocks.BLOCK, 2), 24);
        due("set(BLOCK, 2)", x.set(RiceBlocks.BLOCK, 2), 4);
        due("undo()", x.undo(), 3);
        due("put of +7,89", x.put(0x2B372C3839L), 5);
        due("put of ;o4", x.put(0x3B6F34L), 8);
        due("carryOut()", x.carryOut(), 2);
        due("count(7)", x.count(7), 4);
        row(x, 3, 5, 7, 89, 1000);
    }
}
