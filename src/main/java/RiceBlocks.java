/** A row of ascending numbers whose gaps are coded in blocks, each block with the divisor that is best for it. */
public final class RiceBlocks {
    public static final int NO_SUCH = -1, BAD_VALUE = -2, BAD_TEXT = -3, TOO_MANY = -4, NOT_POSSIBLE = -5, NONE = -6;
    public static final int BLOCK = 0, ONES = 1;

    private static final int MOST_NUMBERS = 64;
    private static final int GREATEST_NUMBER = 65535;
    private static final int NUMBER_BITS = 16;
    private static final int EXPONENTS = 16;
    private static final int EXPONENT_BITS = 4;
    private static final int LARGEST_BLOCK = 16, FIRST_BLOCK = 4;
    private static final int MOST_ONES = 30, FIRST_ONES = 8;
    private static final int WORD_BITS = 32;
    // With exponent 15 no code takes more than 17 bits, and the best exponent takes no more than that one.
    private static final int LONGEST_STREAM = MOST_NUMBERS * (EXPONENT_BITS + 1 + NUMBER_BITS);
    private static final int LONGEST_PAD = 80;
    private static final int CHARACTER_BITS = 8, CHARACTER_MASK = 255, MOST_CHARACTERS = 8;
    private static final int FIRST_SIGN = 33, LAST_SIGN = 126;
    private static final int MOST_UNDONE = 6;
    private static final int SLOTS = 2;

    private final Row row = new Row();
    private final Coding coding = new Coding();
    private final Prices trial = new Prices();
    private final Pad pad = new Pad();
    private final History history = new History();
    private final States slots = new States(SLOTS);

    public RiceBlocks() {
    }

    // ---- changes

    public int set(int setting, int value) {
        history.note(row);
        return settle(changeSetting(setting, value));
    }

    public int putIn(int number) {
        history.note(row);
        return settle(addNumber(number));
    }

    public int takeOut(int number) {
        history.note(row);
        return settle(dropNumber(number));
    }

    public int shift(int place, int by) {
        if (!row.hasPlace(place)) {
            return NO_SUCH;
        }
        if (by < -GREATEST_NUMBER || by > GREATEST_NUMBER) {
            return BAD_VALUE;
        }
        int first = row.number(place) + by;
        int last = row.number(row.length - 1) + by;
        if (first <= row.numberAhead(place) || last > GREATEST_NUMBER) {
            return NOT_POSSIBLE;
        }
        history.note(row);
        row.raiseFrom(place, by);
        settle(0);
        return coding.stream.length;
    }

    // ---- what there is

    public int gap(int place, int what) {
        if (!row.hasPlace(place)) {
            return NO_SUCH;
        }
        int holder = row.blockOf(place);
        int exponent = coding.exponents.read(holder);
        switch (what) {
            case 0:
                return row.gapAhead(place);
            case 1:
                return holder;
            case 2:
                return codeBits(row.gapAhead(place), exponent, row.ones);
            case 3:
                return escapesIn(place, place + 1, exponent);
            case 4:
                return coding.codeStart(row, place);
            default:
                return BAD_VALUE;
        }
    }

    public int block(int block, int what) {
        if (!row.hasBlock(block)) {
            return NO_SUCH;
        }
        int first = row.firstOf(block);
        int end = row.endOf(block);
        int exponent = coding.exponents.read(block);
        switch (what) {
            case 0:
                return exponent;
            case 1:
                return end - first;
            case 2:
                return coding.prices.blockBits(exponent, first, end);
            case 3:
                return coding.skips.read(block);
            case 4:
                return row.numberAhead(first) + 1;
            case 5:
                return escapesIn(first, end, exponent);
            case 6:
                return greatestGap(first, end);
            default:
                return BAD_VALUE;
        }
    }

    public int bit(int place) {
        return coding.stream.hasPlace(place) ? coding.stream.bitOrZero(place) : NO_SUCH;
    }

    public long bits(int place) {
        return coding.stream.hasPlace(place) ? coding.stream.wordFrom(place) : NO_SUCH;
    }

    public int count(int what) {
        switch (what) {
            case 0:
                return row.length;
            case 1:
                return row.blocks();
            case 2:
                return coding.stream.length;
            case 3:
                return allEscapes();
            case 4:
                return row.length * NUMBER_BITS;
            case 5:
                return greatestExponent();
            case 6:
                return row.blockSize;
            case 7:
                return row.ones;
            case 8:
                return pad.length;
            case 9:
                return history.length;
            default:
                return BAD_VALUE;
        }
    }

    // ---- questions; nothing changes

    public int at(int place, int what) {
        if (!row.hasPlace(place)) {
            return NO_SUCH;
        }
        if (what != 0 && what != 1) {
            return BAD_VALUE;
        }
        int holder = row.blockOf(place);
        openBlock(holder);
        for (int next = row.firstOf(holder); next <= place; next++) {
            coding.stream.readNumber(row.ones);
        }
        return what == 0 ? coding.stream.number : coding.stream.bitsRead();
    }

    public int find(int number, int what) {
        if (!isNumber(number) || what < 0 || what > 3) {
            return BAD_VALUE;
        }
        int holder = row.blockAround(number);
        if (holder == NONE) {
            return what == 2 ? NONE : 0;
        }
        int place = readUpTo(number, holder);
        switch (what) {
            case 0:
                return place;
            case 1:
                return coding.stream.number == number ? 1 : 0;
            case 2:
                return holder;
            default:
                return coding.stream.bitsRead();
        }
    }

    public int cost(int block, int exponent) {
        if (!row.hasBlock(block)) {
            return NO_SUCH;
        }
        if (exponent < 0 || exponent >= EXPONENTS) {
            return BAD_VALUE;
        }
        return coding.prices.blockBits(exponent, row.firstOf(block), row.endOf(block));
    }

    public int with(int setting, int value) {
        if (!isSetting(setting, value)) {
            return BAD_VALUE;
        }
        if (setting == BLOCK) {
            return coding.prices.streamBits(value);
        }
        trial.fill(row, value);
        return trial.streamBits(row.blockSize);
    }

    public int best(int what) {
        if (what != 0 && what != 1) {
            return BAD_VALUE;
        }
        int size = 1;
        int fewest = coding.prices.streamBits(1);
        for (int other = 2; other <= LARGEST_BLOCK; other++) {
            int taken = coding.prices.streamBits(other);
            if (taken <= fewest) {
                size = other;
                fewest = taken;
            }
        }
        return what == 0 ? size : fewest;
    }

    public int check() {
        coding.stream.startAt(0, -1);
        for (int place = 0; place < row.length; place++) {
            if (place == row.firstOf(row.blockOf(place))) {
                coding.stream.readExponent();
            }
            coding.stream.readNumber(row.ones);
            if (coding.stream.number != row.number(place)) {
                return place + 2;
            }
        }
        return 1;
    }

    // ---- texts

    public int put(long characters) {
        int signs = signsIn(characters);
        if (signs == 0) {
            return BAD_VALUE;
        }
        if (pad.length + signs > LONGEST_PAD) {
            return TOO_MANY;
        }
        for (int behind = signs - 1; behind >= 0; behind--) {
            pad.append(characterAt(characters, behind));
        }
        return pad.length;
    }

    public int wipe() {
        int length = pad.length;
        pad.length = 0;
        return length;
    }

    public int fault() {
        return pad.faultPlace();
    }

    public int carryOut() {
        if (pad.faultPlace() != NONE) {
            return BAD_TEXT;
        }
        history.note(row);
        int done = carryOrders();
        pad.length = 0;
        return settle(done);
    }

    // ---- undo, saving

    public int undo() {
        if (history.length == 0) {
            return NOT_POSSIBLE;
        }
        history.bringLatest(row);
        coding.codeAnew(row);
        return history.length;
    }

    public int save(int slot) {
        if (!isSlot(slot)) {
            return BAD_VALUE;
        }
        slots.store(slot, row);
        return row.length;
    }

    public int restore(int slot) {
        if (!isSlot(slot)) {
            return BAD_VALUE;
        }
        if (!slots.isStored(slot)) {
            return NOT_POSSIBLE;
        }
        history.note(row);
        slots.load(slot, row);
        return settle(row.length);
    }

    // Ends every change: an error leaves the state that was noted ahead of it out of the history.
    private int settle(int answer) {
        if (answer >= 0) {
            history.keepNoted();
            coding.codeAnew(row);
        }
        return answer;
    }

    private int changeSetting(int setting, int value) {
        if (!isSetting(setting, value)) {
            return BAD_VALUE;
        }
        int previous = setting == BLOCK ? row.blockSize : row.ones;
        if (setting == BLOCK) {
            row.blockSize = value;
        } else {
            row.ones = value;
        }
        return previous;
    }

    private int addNumber(int number) {
        if (!isNumber(number)) {
            return BAD_VALUE;
        }
        if (row.length >= MOST_NUMBERS) {
            return TOO_MANY;
        }
        int place = row.placeOf(number);
        if (row.holds(number, place)) {
            return NOT_POSSIBLE;
        }
        row.insert(place, number);
        return place;
    }

    private int dropNumber(int number) {
        if (!isNumber(number)) {
            return BAD_VALUE;
        }
        int place = row.placeOf(number);
        if (!row.holds(number, place)) {
            return NO_SUCH;
        }
        row.remove(place);
        return place;
    }

    // The pad has no fault here, so that every number has an order ahead of it and fits into an int.
    private int carryOrders() {
        int done = 0;
        int order = 0;
        int number = 0;
        for (int i = 0; i <= pad.length; i++) {
            int sign = pad.signOrEnd(i);
            if (isDigit(sign)) {
                number = number * 10 + (sign - '0');
            } else if (sign == ',' || sign == ';') {
                if (carryNumber(order, number) < 0) {
                    return done;
                }
                number = 0;
                done += sign == ';' ? 1 : 0;
            } else {
                order = sign;
            }
        }
        return done;
    }

    private int carryNumber(int order, int number) {
        switch (order) {
            case '+':
                return addNumber(number);
            case '-':
                return dropNumber(number);
            case 'b':
                return changeSetting(BLOCK, number);
            default:
                return changeSetting(ONES, number);
        }
    }

    private void openBlock(int holder) {
        coding.stream.startAt(coding.skips.read(holder), row.numberAhead(row.firstOf(holder)));
        coding.stream.readExponent();
    }

    private int readUpTo(int number, int holder) {
        int end = row.endOf(holder);
        openBlock(holder);
        for (int place = row.firstOf(holder); place < end; place++) {
            coding.stream.readNumber(row.ones);
            if (coding.stream.number >= number) {
                return place;
            }
        }
        return end;
    }

    private int escapesIn(int first, int end, int exponent) {
        int escapes = 0;
        for (int place = first; place < end; place++) {
            escapes += isEscape(row.gapAhead(place), exponent, row.ones) ? 1 : 0;
        }
        return escapes;
    }

    private int allEscapes() {
        int escapes = 0;
        for (int i = 0; i < row.blocks(); i++) {
            escapes += escapesIn(row.firstOf(i), row.endOf(i), coding.exponents.read(i));
        }
        return escapes;
    }

    private int greatestGap(int first, int end) {
        int greatest = 0;
        for (int place = first; place < end; place++) {
            greatest = Math.max(greatest, row.gapAhead(place));
        }
        return greatest;
    }

    private int greatestExponent() {
        int greatest = NONE;
        for (int i = 0; i < row.blocks(); i++) {
            greatest = Math.max(greatest, coding.exponents.read(i));
        }
        return greatest;
    }

    private static boolean isNumber(int number) {
        return number >= 0 && number <= GREATEST_NUMBER;
    }

    private static boolean isSetting(int setting, int value) {
        if (setting == BLOCK) {
            return value >= 1 && value <= LARGEST_BLOCK;
        }
        return setting == ONES && value >= 1 && value <= MOST_ONES;
    }

    private static boolean isSlot(int slot) {
        return slot >= 0 && slot < SLOTS;
    }

    private static boolean isDigit(int sign) {
        return sign >= '0' && sign <= '9';
    }

    private static boolean isEscape(int gap, int exponent, int ones) {
        return gap >> exponent >= ones;
    }

    private static int codeBits(int gap, int exponent, int ones) {
        return isEscape(gap, exponent, ones) ? ones + NUMBER_BITS : (gap >> exponent) + 1 + exponent;
    }

    private static int characterAt(long characters, int behind) {
        return (int) (characters >>> behind * CHARACTER_BITS) & CHARACTER_MASK;
    }

    // How many characters there are, 0 if they are not as they have to be.
    private static int signsIn(long characters) {
        int signs = 0;
        for (int behind = 0; behind < MOST_CHARACTERS; behind++) {
            int sign = characterAt(characters, behind);
            boolean follows = signs == behind;
            if (sign != 0 && (!follows || sign < FIRST_SIGN || sign > LAST_SIGN)) {
                return 0;
            }
            signs += sign != 0 ? 1 : 0;
        }
        return signs;
    }

    /** Numbers in a fixed number of cells; the only place where an index meets an array. */
    private static final class Cells {
        private final int[] cells;

        Cells(int length) {
            cells = new int[Math.max(0, length)];
        }

        int read(int index) {
            return index >= 0 && index < cells.length ? cells[index] : 0;
        }

        void write(int index, int value) {
            if (index >= 0 && index < cells.length) {
                cells[index] = value;
            }
        }
    }

    /** The numbers and the settings: all that a change can touch, and how the gaps are cut into blocks. */
    private static final class Row {
        private final Cells numbers = new Cells(MOST_NUMBERS);
        private int length = 0;
        private int blockSize = FIRST_BLOCK;
        private int ones = FIRST_ONES;

        boolean hasPlace(int place) {
            return place >= 0 && place < length;
        }

        int number(int place) {
            return numbers.read(place);
        }

        int numberAhead(int place) {
            return place > 0 ? numbers.read(place - 1) : -1;
        }

        int gapAhead(int place) {
            return number(place) - numberAhead(place) - 1;
        }

        int placeOf(int number) {
            for (int place = 0; place < length; place++) {
                if (number(place) >= number) {
                    return place;
                }
            }
            return length;
        }

        boolean holds(int number, int place) {
            return hasPlace(place) && number(place) == number;
        }

        void insert(int place, int number) {
            for (int i = length; i > place; i--) {
                numbers.write(i, number(i - 1));
            }
            numbers.write(place, number);
            length++;
        }

        void remove(int place) {
            length--;
            for (int i = place; i < length; i++) {
                numbers.write(i, number(i + 1));
            }
        }

        void raiseFrom(int place, int by) {
            for (int i = place; i < length; i++) {
                numbers.write(i, number(i) + by);
            }
        }

        int blockOf(int place) {
            return blockSize > 0 ? place / blockSize : 0;
        }

        int blocks() {
            return length > 0 ? blockOf(length - 1) + 1 : 0;
        }

        boolean hasBlock(int block) {
            return block >= 0 && block < blocks();
        }

        int firstOf(int block) {
            return block * blockSize;
        }

        int endOf(int block) {
            return Math.min(firstOf(block) + blockSize, length);
        }

        int blockAround(int number) {
            for (int i = blocks() - 1; i >= 0; i--) {
                if (numberAhead(firstOf(i)) < number) {
                    return i;
                }
            }
            return NONE;
        }
    }

    /** For each exponent the bits of the codes ahead of each place, so that every block is priced by a difference. */
    private static final class Prices {
        private static final int WIDTH = MOST_NUMBERS + 1;
        private final Cells sums = new Cells(EXPONENTS * WIDTH);
        private int length = 0;

        void fill(Row row, int ones) {
            length = row.length;
            for (int place = 0; place < length; place++) {
                int gap = row.gapAhead(place);
                for (int exponent = 0; exponent < EXPONENTS; exponent++) {
                    int index = exponent * WIDTH + place;
                    sums.write(index + 1, sums.read(index) + codeBits(gap, exponent, ones));
                }
            }
        }

        int codesBits(int exponent, int first, int end) {
            return sums.read(exponent * WIDTH + end) - sums.read(exponent * WIDTH + first);
        }

        int blockBits(int exponent, int first, int end) {
            return EXPONENT_BITS + codesBits(exponent, first, end);
        }

        int bestExponent(int first, int end) {
            int chosen = 0;
            int fewest = codesBits(0, first, end);
            for (int exponent = 1; exponent < EXPONENTS; exponent++) {
                int taken = codesBits(exponent, first, end);
                if (taken < fewest) {
                    chosen = exponent;
                    fewest = taken;
                }
            }
            return chosen;
        }

        int streamBits(int blockSize) {
            int step = Math.max(1, blockSize);
            int total = 0;
            for (int first = 0; first < length; first += step) {
                int end = Math.min(first + step, length);
                total += blockBits(bestExponent(first, end), first, end);
            }
            return total;
        }
    }

    /** The bits, and a reader that goes through them number by number. */
    private static final class Stream {
        private static final int ALL_ONES = -1;
        private final Cells cells = new Cells(LONGEST_STREAM);
        private int length = 0;
        private int start = 0;
        private int next = 0;
        private int exponent = 0;
        private int number = -1;

        boolean hasPlace(int place) {
            return place >= 0 && place < length;
        }

        int bitOrZero(int place) {
            return hasPlace(place) ? cells.read(place) : 0;
        }

        long wordFrom(int place) {
            long word = 0;
            for (int i = 0; i < WORD_BITS; i++) {
                word = word * 2 + bitOrZero(place + i);
            }
            return word;
        }

        void append(int value, int width) {
            for (int i = width - 1; i >= 0; i--) {
                cells.write(length, value >> i & 1);
                length++;
            }
        }

        void appendCode(int gap, int exponent, int ones) {
            if (isEscape(gap, exponent, ones)) {
                append(ALL_ONES, ones);
                append(gap, NUMBER_BITS);
            } else {
                append(ALL_ONES, gap >> exponent);
                append(0, 1);
                append(gap, exponent);
            }
        }

        void startAt(int place, int base) {
            start = place;
            next = place;
            number = base;
        }

        void readExponent() {
            exponent = readBits(EXPONENT_BITS);
        }

        void readNumber(int ones) {
            number += readGap(ones) + 1;
        }

        int bitsRead() {
            return next - start;
        }

        private int readGap(int ones) {
            for (int quotient = 0; quotient < ones; quotient++) {
                if (readBits(1) == 0) {
                    return (quotient << exponent) + readBits(exponent);
                }
            }
            return readBits(NUMBER_BITS);
        }

        private int readBits(int width) {
            int value = 0;
            for (int i = 0; i < width; i++) {
                value = value * 2 + bitOrZero(next);
                next++;
            }
            return value;
        }
    }

    /** The stream of a row, with the exponents and the skips of its blocks. */
    private static final class Coding {
        private final Prices prices = new Prices();
        private final Stream stream = new Stream();
        private final Cells exponents = new Cells(MOST_NUMBERS);
        private final Cells skips = new Cells(MOST_NUMBERS);

        void codeAnew(Row row) {
            prices.fill(row, row.ones);
            stream.length = 0;
            for (int i = 0; i < row.blocks(); i++) {
                codeBlock(row, i);
            }
        }

        int codeStart(Row row, int place) {
            int holder = row.blockOf(place);
            int ahead = prices.blockBits(exponents.read(holder), row.firstOf(holder), place);
            return skips.read(holder) + ahead;
        }

        private void codeBlock(Row row, int block) {
            int first = row.firstOf(block);
            int end = row.endOf(block);
            int exponent = prices.bestExponent(first, end);
            exponents.write(block, exponent);
            skips.write(block, stream.length);
            stream.append(exponent, EXPONENT_BITS);
            for (int place = first; place < end; place++) {
                stream.appendCode(row.gapAhead(place), exponent, row.ones);
            }
        }
    }

    /** The text of orders. */
    private static final class Pad {
        private final Cells signs = new Cells(LONGEST_PAD);
        private int length = 0;

        void append(int sign) {
            signs.write(length, sign);
            length++;
        }

        // The end closes an order as a semicolon does.
        int signOrEnd(int place) {
            return place < length ? signs.read(place) : ';';
        }

        int faultPlace() {
            int order = 0;
            int number = -1;
            for (int i = 0; i < length; i++) {
                int sign = signs.read(i);
                if (order == 0) {
                    if (!isOrder(sign)) {
                        return i;
                    }
                    order = sign;
                    number = -1;
                } else if (isDigit(sign)) {
                    number = withDigit(number, sign - '0');
                    if (number > GREATEST_NUMBER) {
                        return i;
                    }
                } else if (number >= 0 && sign == ';') {
                    order = 0;
                } else if (number >= 0 && sign == ',' && order == '+') {
                    number = -1;
                } else {
                    return i;
                }
            }
            return order != 0 && number >= 0 ? NONE : length;
        }

        // A number ahead of its first digit is -1; behind a leading zero no digit can stand.
        private static int withDigit(int number, int digit) {
            if (number == 0) {
                return GREATEST_NUMBER + 1;
            }
            return Math.max(0, number) * 10 + digit;
        }

        private static boolean isOrder(int sign) {
            return sign == '+' || sign == '-' || sign == 'b' || sign == 'o';
        }
    }

    /** Copies of a row, each at a place of its own. */
    private static final class States {
        private static final int HEAD = 4;
        private static final int WIDTH = HEAD + MOST_NUMBERS;
        private final Cells cells;

        States(int places) {
            cells = new Cells(places * WIDTH);
        }

        boolean isStored(int place) {
            return cells.read(place * WIDTH) == 1;
        }

        void store(int place, Row row) {
            int head = place * WIDTH;
            cells.write(head, 1);
            cells.write(head + 1, row.length);
            cells.write(head + 2, row.blockSize);
            cells.write(head + 3, row.ones);
            for (int i = 0; i < row.length; i++) {
                cells.write(head + HEAD + i, row.number(i));
            }
        }

        void load(int place, Row row) {
            int head = place * WIDTH;
            row.length = cells.read(head + 1);
            row.blockSize = cells.read(head + 2);
            row.ones = cells.read(head + 3);
            for (int i = 0; i < row.length; i++) {
                row.numbers.write(i, cells.read(head + HEAD + i));
            }
        }
    }

    /** The states ahead of the latest changes, in a ring with one place more, for the state that is only noted. */
    private static final class History {
        private static final int PLACES = MOST_UNDONE + 1;
        private final States states = new States(PLACES);
        private int free = 0;
        private int length = 0;

        void note(Row row) {
            states.store(free, row);
        }

        void keepNoted() {
            free = free + 1 < PLACES ? free + 1 : 0;
            length = Math.min(length + 1, MOST_UNDONE);
        }

        void bringLatest(Row row) {
            free = free > 0 ? free - 1 : PLACES - 1;
            length--;
            states.load(free, row);
        }
    }
}
