import java.util.Arrays;

/**
 * A book of measures: a file tells what each measure is in others, a text is reckoned to one exact
 * fraction and the powers of base measures.
 */
public final class MeasureBook {
    public static final int NONE = -1;

    private static final int LEAST_BITS = 16;
    private static final int MOST_BITS = 512;
    private static final int TAPE_ROOM = 4000;
    private static final int MOST_DEFINITIONS = 100;
    private static final int MOST_BASES = 8;
    private static final int MOST_NAME_BYTES = 24;
    private static final int MOST_DIGITS = 60;
    private static final int MOST_EXPONENT_DIGITS = 3;
    private static final int MOST_NESTED = 20;
    private static final int MOST_POWER = 99;
    private static final int MOST_BEHIND_POINT = 300;

    /** 512 calls can't feed more than this, so that texts of the book and the TAPE fit in it together. */
    private static final int TEXT_ROOM = 512 * 20;
    /** The densest text, "1a 1a 1a", has four steps in three bytes. */
    private static final int CODE_ROOM = TEXT_ROOM / 3 * 4 + 16;
    /** A level of ( holds back a sum, a product and a row; one text more than DEFINITIONS may be open. */
    private static final int STACK_ROOM = (MOST_DEFINITIONS + 1) * (3 * (MOST_NESTED + 1) + 4);
    /** A level of ( holds itself, a sum or a - ahead, a product and a row. */
    private static final int HELD_ROOM = 4 * (MOST_NESTED + 2);

    private static final int SYNTAX = 1;
    private static final int TWICE = 2;
    private static final int MUCH = 3;
    private static final int ENDLESS = 4;
    private static final int UNKNOWN = 5;
    private static final int ZERO = 6;
    private static final int MIXED = 7;
    private static final int POWERS = 8;
    private static final int LARGE = 9;

    private static final int BASE = 0;
    private static final int MEASURE = 1;
    private static final int PREFIX = 2;

    /** Kinds of tokens; a sign's kind is its byte, and no sign's byte is as low as these. */
    private static final int END = 0;
    private static final int NO_TOKEN = 1;
    private static final int NAME = 2;
    private static final int NUMBER = 3;

    /** Steps of reckoning; NAME and NUMBER are steps too. */
    private static final int OPEN = 10;
    private static final int ADD = 11;
    private static final int SUBTRACT = 12;
    private static final int NEGATE = 13;
    private static final int MULTIPLY = 14;
    private static final int DIVIDE = 15;
    private static final int ROW = 16;
    private static final int RAISE = 17;
    private static final int TURN = 18;

    /** How tightly a held step binds; a higher rank is done first. */
    private static final int SUM_RANK = 1;
    private static final int NEGATE_RANK = 2;
    private static final int TERM_RANK = 3;
    private static final int ROW_RANK = 4;

    private static final int LIMB_BITS = 30;
    private static final int LIMB_MASK = (1 << LIMB_BITS) - 1;
    /** 18 limbs of 30 bits hold 512 bits. */
    private static final int NARROW = 18;
    /** A NUMBER has 60 digits and 999 noughts at most, that is 118 limbs; products of VALUES have 36. */
    private static final int WIDE = 128;
    /** Euclid's way takes at most some 5100 rounds for the longest numbers here. */
    private static final int MOST_ROUNDS = 10000;

    private static final int CHUNK = 9;
    /** 18 chunks of nine digits are more than the 155 that 2 to the 512 has. */
    private static final int DECIMAL_CHUNKS = 18;
    private static final int[] TENS = {
        1, 10, 100, 1000, 10000, 100000, 1000000, 10000000, 100000000, 1000000000
    };

    private static final int NEW = 0;
    private static final int OPENED = 1;
    private static final int DONE = 2;

    private final int bits;
    private final byte[] tape = new byte[TAPE_ROOM];
    private int tapeSize;
    private final Book book = new Book();
    private final Parser parser = new Parser();
    private final Reckoner reckoner;
    private final Decimals decimals = new Decimals();
    private final Value result = new Value();
    private int latestFault;
    private int faultPlace;
    private int results;

    public MeasureBook(int bits) {
        this.bits = Math.max(LEAST_BITS, Math.min(MOST_BITS, bits));
        reckoner = new Reckoner(this.bits);
    }

    public int feed(int a, int b, int c, int d, int e) {
        if (tapeSize + 20 > TAPE_ROOM) {
            return NONE;
        }
        putBytes(a);
        putBytes(b);
        putBytes(c);
        putBytes(d);
        putBytes(e);
        return tapeSize;
    }

    public int cut(int n) {
        if (n < 0 || n > tapeSize) {
            return NONE;
        }
        int gone = tapeSize - n;
        tapeSize = n;
        return gone;
    }

    public int define() {
        int from = book.textEnd();
        int to = takeTape(from);
        int ahead = book.count;
        latestFault = readFile(from, to);
        if (latestFault == 0 && book.count > ahead) {
            int endless = reckoner.settle(book);
            if (endless != NONE) {
                latestFault = ENDLESS;
                faultPlace = endless;
            }
        }
        if (latestFault != 0) {
            book.resize(ahead);
            return -10 - faultPlace;
        }
        return book.count - ahead;
    }

    public int forget(int n) {
        int before = book.count;
        if (n < 0 || n > before) {
            return NONE;
        }
        if (n > 0) {
            book.resize(before - n);
            if (reckoner.settle(book) != NONE) {
                book.resize(before);
                return NONE;
            }
            result.losePowers(book.bases);
        }
        return book.count;
    }

    public int reckon() {
        int from = openText();
        return answerText(from, parser.readExpr(book.code));
    }

    public int turn() {
        int from = openText();
        boolean good = parser.readExpr(book.code) && parser.in.kind == '>';
        int place = parser.in.start;
        if (good) {
            parser.in.next();
            good = parser.readExpr(book.code);
            book.code.add(TURN, place, 0);
        }
        return answerText(from, good);
    }

    public int fault() {
        return latestFault;
    }

    public int sign() {
        return result.sign;
    }

    public int power(int base) {
        return base >= 0 && base < MOST_BASES ? result.powers[base] : 0;
    }

    public int digits(int part) {
        if (part != 0 && part != 1) {
            return NONE;
        }
        decimals.write(result.part(part));
        return decimals.count;
    }

    public int digit(int part, int i) {
        if (part != 0 && part != 1) {
            return NONE;
        }
        decimals.write(result.part(part));
        return i >= 0 && i < decimals.count ? decimals.row[i] : NONE;
    }

    public int point(int i) {
        if (i < 1 || i > MOST_BEHIND_POINT) {
            return NONE;
        }
        return decimals.behindPoint(result, i, reckoner.bench);
    }

    public int ends(int which) {
        if (which < 0 || which > 2) {
            return NONE;
        }
        decimals.work.copy(result.bottom);
        int twos = decimals.takeOut(2);
        if (which == 0) {
            return twos;
        }
        int fives = decimals.takeOut(5);
        if (which == 1) {
            return fives;
        }
        return decimals.work.isOne() ? 1 : 0;
    }

    public int alike(int i) {
        if (i < 0) {
            return NONE;
        }
        int left = i;
        for (int k = 0; k < book.count; k++) {
            if (isAlike(k)) {
                if (left == 0) {
                    return k;
                }
                left--;
            }
        }
        return NONE;
    }

    public int sort(int k) {
        return book.has(k) ? book.sorts[k] : NONE;
    }

    public int faultOf(int k) {
        return book.has(k) ? reckoner.ledger.faults[k] : NONE;
    }

    public int name(int k, int i) {
        if (!book.has(k) || i < 0 || i >= book.nameLengths[k]) {
            return NONE;
        }
        return book.byteAt(book.namePlaces[k] + i);
    }

    public int told(int what) {
        switch (what) {
            case 0:
                return tapeSize;
            case 1:
                return book.count;
            case 2:
                return book.bases;
            case 3:
                return bits;
            case 4:
                return results;
            default:
                return NONE;
        }
    }

    private void putBytes(int four) {
        for (int shift = 24; shift >= 0 && tapeSize < TAPE_ROOM; shift -= 8) {
            tape[tapeSize] = (byte) (four >> shift);
            tapeSize++;
        }
    }

    /** Puts the TAPE behind the book's texts, so that all texts are in one row; answers its end there. */
    private int takeTape(int from) {
        int length = Math.max(0, Math.min(tapeSize, TEXT_ROOM - from));
        System.arraycopy(tape, 0, book.text, from, length);
        tapeSize = 0;
        return from + length;
    }

    /** Answers the FAULT that comes first in the FILE; DEFINITIONS ahead of it are in the book then. */
    private int readFile(int from, int to) {
        int found = 0;
        int start = from;
        for (int line = 0; line <= TAPE_ROOM && start <= to && found == 0; line++) {
            int stop = book.textUntil(start, to, '\n');
            found = readLine(start, book.textUntil(start, stop, '#'), from);
            start = stop + 1;
        }
        return found;
    }

    private int readLine(int start, int stop, int fileStart) {
        Tokens in = parser.in;
        in.begin(book.text, start, stop);
        if (in.kind == END) {
            return 0;
        }
        int place = in.start;
        int length = in.at - place;
        boolean good = in.kind == NAME;
        boolean prefix = good && in.byteAt(in.at) == '-';
        boolean base = false;
        book.code.size = book.codeEnd();
        if (good) {
            in.next();
            base = !prefix && in.kind == '!';
            if (prefix || base) {
                in.next();
            }
            good = base || parser.readExpr(book.code);
        }
        if (!good || in.kind != END) {
            faultPlace = in.start - fileStart;
            return SYNTAX;
        }
        int sortOfLine = base ? BASE : prefix ? PREFIX : MEASURE;
        int objection = book.objection(sortOfLine, place, length);
        faultPlace = place - fileStart;
        if (objection == 0) {
            book.add(sortOfLine, place, length, stop);
        }
        return objection;
    }

    private int openText() {
        int from = book.textEnd();
        parser.in.begin(book.text, from, takeTape(from));
        book.code.size = book.codeEnd();
        return from;
    }

    /** Takes it from where the text has been read; if that went well, it must be at its end. */
    private int answerText(int from, boolean good) {
        if (!good || parser.in.kind != END) {
            latestFault = SYNTAX;
            return -10 - (parser.in.start - from);
        }
        reckoner.held = 0;
        reckoner.run(book, book.codeEnd(), book.code.size);
        latestFault = reckoner.found;
        if (latestFault != 0) {
            return -10 - (reckoner.place - from);
        }
        result.copy(reckoner.slot(0));
        results++;
        return 1;
    }

    private boolean isAlike(int k) {
        Ledger ledger = reckoner.ledger;
        return book.sorts[k] != PREFIX && ledger.faults[k] == 0
            && ledger.values[k].hasPowersOf(result);
    }

    /** A whole number, 0 or above, in limbs of 30 bits, the lowest first; the highest is never 0. */
    private static final class Natural {
        final int[] limbs;
        int size;

        Natural(boolean wide) {
            limbs = new int[wide ? WIDE : NARROW];
        }

        void setSmall(int number) {
            limbs[0] = number & LIMB_MASK;
            size = limbs[0] == 0 ? 0 : 1;
        }

        void copy(Natural other) {
            size = Math.min(other.size, limbs.length);
            System.arraycopy(other.limbs, 0, limbs, 0, size);
        }

        boolean isOne() {
            return size == 1 && limbs[0] == 1;
        }

        int bitLength() {
            if (size == 0) {
                return 0;
            }
            return size * LIMB_BITS + 2 - Integer.numberOfLeadingZeros(limbs[size - 1]);
        }

        int compare(Natural other) {
            if (size != other.size) {
                return size < other.size ? -1 : 1;
            }
            for (int i = size - 1; i >= 0; i--) {
                if (limbs[i] != other.limbs[i]) {
                    return limbs[i] < other.limbs[i] ? -1 : 1;
                }
            }
            return 0;
        }

        /** Both numbers are at most 2 to the 30, so that no limb's product leaves a long. */
        void timesPlus(int factor, int more) {
            long carry = more;
            for (int i = 0; i < size; i++) {
                carry += (long) limbs[i] * factor;
                limbs[i] = (int) (carry & LIMB_MASK);
                carry >>= LIMB_BITS;
            }
            if (carry != 0 && size < limbs.length) {
                limbs[size] = (int) carry;
                size++;
            }
        }

        void timesTens(int noughts) {
            for (int left = noughts; left > 0; left -= CHUNK) {
                timesPlus(TENS[Math.min(left, CHUNK)], 0);
            }
        }

        /** Divides this by a number from 1 to 2 to the 30, and answers what is left over. */
        int divideSmall(int by) {
            long rest = 0;
            if (by <= 0) {
                return 0;
            }
            for (int i = size - 1; i >= 0; i--) {
                long whole = (rest << LIMB_BITS) + limbs[i];
                limbs[i] = (int) (whole / by);
                rest = whole % by;
            }
            trim();
            return (int) rest;
        }

        /** This is neither a nor b. */
        void setProduct(Natural a, Natural b) {
            int all = Math.min(a.size + b.size, limbs.length);
            Arrays.fill(limbs, 0, all, 0);
            for (int i = 0; i < a.size; i++) {
                long factor = a.limbs[i];
                long carry = 0;
                for (int j = 0; j < b.size && i + j < all; j++) {
                    carry += factor * b.limbs[j] + limbs[i + j];
                    limbs[i + j] = (int) (carry & LIMB_MASK);
                    carry >>= LIMB_BITS;
                }
                if (i + b.size < all) {
                    limbs[i + b.size] = (int) carry;
                }
            }
            size = all;
            trim();
        }

        /** This is neither a nor b. */
        void setSum(Natural a, Natural b) {
            int all = Math.min(Math.max(a.size, b.size) + 1, limbs.length);
            int carry = 0;
            for (int i = 0; i < all; i++) {
                carry += (i < a.size ? a.limbs[i] : 0) + (i < b.size ? b.limbs[i] : 0);
                limbs[i] = carry & LIMB_MASK;
                carry >>>= LIMB_BITS;
            }
            size = all;
            trim();
        }

        /** This is neither a nor b, and a is not less than b. */
        void setDifference(Natural a, Natural b) {
            int all = Math.min(a.size, limbs.length);
            int borrow = 0;
            for (int i = 0; i < all; i++) {
                borrow += a.limbs[i] - (i < b.size ? b.limbs[i] : 0);
                limbs[i] = borrow & LIMB_MASK;
                borrow >>= LIMB_BITS;
            }
            size = all;
            trim();
        }

        void trim() {
            while (size > 0 && limbs[size - 1] == 0) {
                size--;
            }
        }
    }

    /** A fraction in lowest terms with a POWER of each BASE. */
    private static final class Value {
        int sign;
        final Natural top = new Natural(false);
        final Natural bottom = new Natural(false);
        final int[] powers = new int[MOST_BASES];

        Value() {
            bottom.limbs[0] = 1;
            bottom.size = 1;
        }

        Natural part(int which) {
            return which == 0 ? top : bottom;
        }

        void copy(Value other) {
            sign = other.sign;
            top.copy(other.top);
            bottom.copy(other.bottom);
            System.arraycopy(other.powers, 0, powers, 0, MOST_BASES);
        }

        void setBase(int base) {
            sign = 1;
            top.setSmall(1);
            bottom.setSmall(1);
            losePowers(0);
            if (base >= 0 && base < MOST_BASES) {
                powers[base] = 1;
            }
        }

        void losePowers(int from) {
            for (int i = Math.max(from, 0); i < MOST_BASES; i++) {
                powers[i] = 0;
            }
        }

        boolean hasPowersOf(Value other) {
            for (int i = 0; i < MOST_BASES; i++) {
                if (powers[i] != other.powers[i]) {
                    return false;
                }
            }
            return true;
        }

        /** Answers false as soon as a POWER is beyond its bounds; the others may be as they were then. */
        boolean combinePowers(int times, Value other, int otherTimes) {
            for (int i = 0; i < MOST_BASES; i++) {
                powers[i] = times * powers[i] + otherTimes * other.powers[i];
                if (powers[i] < -MOST_POWER || powers[i] > MOST_POWER) {
                    return false;
                }
            }
            return true;
        }
    }

    /** Does the acts upon VALUES; each act leaves what comes of it here until it is in lowest terms. */
    private static final class Bench {
        final int bits;
        final Natural top = new Natural(true);
        final Natural bottom = new Natural(true);
        int sign;
        final Natural left = new Natural(true);
        final Natural right = new Natural(true);
        final Natural quotient = new Natural(true);
        final int[] shiftedNumber = new int[WIDE + 1];
        final int[] shiftedBy = new int[WIDE + 1];

        Bench(int bits) {
            this.bits = bits;
        }

        /** What comes of it is in a; where a FAULT is answered, a is of no use any more. */
        int act(int step, int n, Value a, Value b) {
            int found = 0;
            switch (step) {
                case NEGATE:
                    a.sign = -a.sign;
                    return 0;
                case ADD:
                    found = addUp(a, b, b.sign);
                    break;
                case SUBTRACT:
                    found = addUp(a, b, -b.sign);
                    break;
                case MULTIPLY:
                    found = multiply(a, b);
                    break;
                case TURN:
                    found = a.hasPowersOf(b) ? divide(a, b) : MIXED;
                    break;
                case RAISE:
                    found = raise(a, n);
                    break;
                default:
                    found = divide(a, b);
                    break;
            }
            if (found != 0) {
                return found;
            }
            reduce();
            return putInto(a);
        }

        int addUp(Value a, Value b, int signOfB) {
            if (!a.hasPowersOf(b)) {
                return MIXED;
            }
            left.setProduct(a.top, b.bottom);
            right.setProduct(b.top, a.bottom);
            bottom.setProduct(a.bottom, b.bottom);
            if (a.sign * signOfB >= 0) {
                top.setSum(left, right);
                sign = a.sign != 0 ? a.sign : signOfB;
                return 0;
            }
            int order = left.compare(right);
            sign = a.sign * order;
            if (order >= 0) {
                top.setDifference(left, right);
            } else {
                top.setDifference(right, left);
            }
            return 0;
        }

        int multiply(Value a, Value b) {
            if (!a.combinePowers(1, b, 1)) {
                return POWERS;
            }
            top.setProduct(a.top, b.top);
            bottom.setProduct(a.bottom, b.bottom);
            sign = a.sign * b.sign;
            return 0;
        }

        int divide(Value a, Value b) {
            if (b.sign == 0) {
                return ZERO;
            }
            if (!a.combinePowers(1, b, -1)) {
                return POWERS;
            }
            top.setProduct(a.top, b.bottom);
            bottom.setProduct(a.bottom, b.top);
            sign = a.sign * b.sign;
            return 0;
        }

        int raise(Value a, int n) {
            if (a.sign == 0 && n < 0) {
                return ZERO;
            }
            if (!a.combinePowers(n, a, 0)) {
                return POWERS;
            }
            int times = Math.abs(n);
            setRaised(top, n < 0 ? a.bottom : a.top, times);
            setRaised(bottom, n < 0 ? a.top : a.bottom, times);
            sign = times == 0 ? 1 : times % 2 == 0 ? a.sign * a.sign : a.sign;
            return 0;
        }

        /** Stops as soon as the number is too large, since it would be so at the end as well. */
        void setRaised(Natural out, Natural base, int times) {
            out.setSmall(1);
            for (int i = 0; i < times && out.bitLength() <= bits; i++) {
                left.setProduct(out, base);
                out.copy(left);
            }
        }

        int readNumber(byte[] text, int from, int length, Value into) {
            int end = Math.min(from + length, text.length);
            int behind = 0;
            boolean pointSeen = false;
            int i = Math.max(from, 0);
            top.setSmall(0);
            for (; i < end && text[i] != 'e'; i++) {
                if (text[i] == '.') {
                    pointSeen = true;
                } else {
                    top.timesPlus(10, text[i] - '0');
                    behind += pointSeen ? 1 : 0;
                }
            }
            int tens = exponentAt(text, i + 1, end) - behind;
            bottom.setSmall(1);
            (tens < 0 ? bottom : top).timesTens(Math.abs(tens));
            sign = top.size == 0 ? 0 : 1;
            into.losePowers(0);
            reduce();
            return putInto(into);
        }

        int exponentAt(byte[] text, int from, int end) {
            int exponent = 0;
            boolean below = false;
            for (int i = from; i < end; i++) {
                if (text[i] == '-') {
                    below = true;
                } else if (text[i] != '+') {
                    exponent = exponent * 10 + text[i] - '0';
                }
            }
            return below ? -exponent : exponent;
        }

        int putInto(Value into) {
            if (top.bitLength() > bits || bottom.bitLength() > bits) {
                return LARGE;
            }
            into.sign = sign;
            into.top.copy(top);
            into.bottom.copy(bottom);
            return 0;
        }

        void reduce() {
            if (top.size == 0) {
                bottom.setSmall(1);
            }
            if (bottom.isOne()) {
                return;
            }
            left.copy(top);
            right.copy(bottom);
            Natural common = left;
            Natural other = right;
            for (int round = 0; round < MOST_ROUNDS && other.size > 0; round++) {
                splitBy(common, other);
                Natural rest = common;
                common = other;
                other = rest;
            }
            if (!common.isOne()) {
                splitBy(top, common);
                top.copy(quotient);
                splitBy(bottom, common);
                bottom.copy(quotient);
            }
        }

        /** Leaves the rest of the division in number itself, and what was asked for in quotient. */
        void splitBy(Natural number, Natural by) {
            quotient.size = 0;
            int n = by.size;
            int m = number.size;
            if (n == 0 || number.compare(by) < 0) {
                return;
            }
            if (n == 1) {
                quotient.copy(number);
                number.setSmall(quotient.divideSmall(by.limbs[0]));
                return;
            }
            // The highest limb of the divisor must be half full, or else a limb's estimate is poor.
            int shift = Integer.numberOfLeadingZeros(by.limbs[n - 1]) - 2;
            shiftUp(number, shift, shiftedNumber);
            shiftUp(by, shift, shiftedBy);
            for (int j = m - n; j >= 0; j--) {
                quotient.limbs[j] = takeOff(j, n);
            }
            quotient.size = m - n + 1;
            quotient.trim();
            for (int i = 0; i < n; i++) {
                long pair = ((long) shiftedNumber[i + 1] << LIMB_BITS) + shiftedNumber[i];
                number.limbs[i] = (int) (pair >> shift) & LIMB_MASK;
            }
            number.size = n;
            number.trim();
        }

        void shiftUp(Natural number, int shift, int[] out) {
            long carry = 0;
            for (int i = 0; i < number.size; i++) {
                carry += (long) number.limbs[i] << shift;
                out[i] = (int) (carry & LIMB_MASK);
                carry >>= LIMB_BITS;
            }
            out[number.size] = (int) carry;
        }

        /** One limb of the quotient, two limbs or more being in the divisor (Knuth's algorithm D). */
        int takeOff(int j, int n) {
            long high = shiftedBy[n - 1];
            if (high == 0) {
                return 0;
            }
            long pair = ((long) shiftedNumber[j + n] << LIMB_BITS) + shiftedNumber[j + n - 1];
            long guess = pair / high;
            long rest = pair % high;
            // The guess is too high by two at most.
            for (int i = 0; i < 2 && rest <= LIMB_MASK; i++) {
                if (guess <= LIMB_MASK
                    && guess * shiftedBy[n - 2] <= (rest << LIMB_BITS) + shiftedNumber[j + n - 2]) {
                    break;
                }
                guess--;
                rest += high;
            }
            if (subtractTimes(guess, j, n) < 0) {
                guess--;
                addBack(j, n);
            }
            return (int) guess;
        }

        /** Answers what is borrowed beyond the highest limb: below 0 if the guess was too high. */
        long subtractTimes(long guess, int j, int n) {
            long borrow = 0;
            for (int i = 0; i < n; i++) {
                borrow += shiftedNumber[i + j] - guess * shiftedBy[i];
                shiftedNumber[i + j] = (int) (borrow & LIMB_MASK);
                borrow >>= LIMB_BITS;
            }
            borrow += shiftedNumber[j + n];
            shiftedNumber[j + n] = (int) (borrow & LIMB_MASK);
            return borrow >> LIMB_BITS;
        }

        void addBack(int j, int n) {
            int carry = 0;
            for (int i = 0; i < n; i++) {
                carry += shiftedNumber[i + j] + shiftedBy[i];
                shiftedNumber[i + j] = carry & LIMB_MASK;
                carry >>>= LIMB_BITS;
            }
            shiftedNumber[j + n] = (shiftedNumber[j + n] + carry) & LIMB_MASK;
        }
    }

    /** Tells tokens in a part of a text; it always stands at one, and END is one too. */
    private static final class Tokens {
        byte[] text = new byte[0];
        int end;
        int at;
        int kind;
        int start;
        boolean digitsAlone;

        void begin(byte[] bytes, int from, int to) {
            text = bytes;
            end = Math.max(0, Math.min(to, bytes.length));
            at = Math.max(0, Math.min(from, end));
            next();
        }

        /** Behind the text's end this answers 0, which begins no token and goes on in none. */
        int byteAt(int i) {
            return i >= 0 && i < end ? text[i] : 0;
        }

        void next() {
            while (at < end && isBlank(text[at])) {
                at++;
            }
            start = at;
            int first = byteAt(at);
            if (at >= end) {
                kind = END;
            } else if (isLetter(first)) {
                passName();
            } else if (isDigit(first)) {
                passNumber();
            } else {
                kind = isSign(first) ? first : NO_TOKEN;
                at++;
            }
        }

        void passName() {
            while (at < end && (isLetter(text[at]) || isDigit(text[at]))) {
                at++;
            }
            kind = at - start > MOST_NAME_BYTES ? NO_TOKEN : NAME;
        }

        void passNumber() {
            int ahead = passDigits();
            int exponent = 0;
            digitsAlone = true;
            if (byteAt(at) == '.' && isDigit(byteAt(at + 1))) {
                at++;
                ahead += passDigits();
                digitsAlone = false;
            }
            if (byteAt(at) == 'e') {
                int digit = byteAt(at + 1) == '+' || byteAt(at + 1) == '-' ? at + 2 : at + 1;
                if (isDigit(byteAt(digit))) {
                    at = digit;
                    exponent = passDigits();
                    digitsAlone = false;
                }
            }
            boolean tooLong = ahead > MOST_DIGITS || exponent > MOST_EXPONENT_DIGITS;
            kind = tooLong ? NO_TOKEN : NUMBER;
        }

        int passDigits() {
            int from = at;
            while (at < end && text[at] >= '0' && text[at] <= '9') {
                at++;
            }
            return at - from;
        }

        /** The NUMBER at which this stands, having digits alone; whatever is above most is most + 1. */
        int numberUpTo(int most) {
            int number = 0;
            for (int i = start; i < at && number <= most; i++) {
                number = Math.min(number * 10 + byteAt(i) - '0', most + 1);
            }
            return number;
        }

        static boolean isBlank(int b) {
            return b == ' ' || b == '\t' || b == '\r';
        }

        static boolean isLetter(int b) {
            return b >= 'a' && b <= 'z' || b >= 'A' && b <= 'Z' || b == '_';
        }

        static boolean isDigit(int b) {
            return b >= '0' && b <= '9';
        }

        static boolean isSign(int b) {
            switch (b) {
                case '+':
                case '-':
                case '*':
                case '/':
                case '^':
                case '|':
                case '(':
                case ')':
                case '>':
                case '!':
                    return true;
                default:
                    return false;
            }
        }
    }

    /** Steps of reckoning one behind the other, each behind those that make what it is done to. */
    private static final class Code {
        final int[] steps = new int[CODE_ROOM];
        final int[] places = new int[CODE_ROOM];
        final int[] details = new int[CODE_ROOM];
        int size;

        void add(int step, int place, int detail) {
            if (size < CODE_ROOM) {
                steps[size] = step;
                places[size] = place;
                details[size] = detail;
                size++;
            }
        }
    }

    /** Turns an EXPR into steps, in the order in which they are done. */
    private static final class Parser {
        final Tokens in = new Tokens();
        final int[] heldSteps = new int[HELD_ROOM];
        final int[] heldPlaces = new int[HELD_ROOM];
        int held;
        int depth;

        /** Afterwards the tokens stand behind the EXPR; for false, at the one that can't stand. */
        boolean readExpr(Code out) {
            held = 0;
            depth = 0;
            readMinus();
            for (int i = 0; i <= TEXT_ROOM; i++) {
                if (in.kind == '(') {
                    if (depth >= MOST_NESTED) {
                        return false;
                    }
                    openNested();
                    readMinus();
                    continue;
                }
                if (!readOne(out) || !readPower(out)) {
                    return false;
                }
                for (int level = depth; level > 0 && in.kind == ')'; level--) {
                    closeNested(out);
                    if (!readPower(out)) {
                        return false;
                    }
                }
                int joint = jointFor(in.kind);
                release(joint == NONE ? SUM_RANK : rankOf(joint), out);
                if (joint == NONE) {
                    return depth == 0;
                }
                hold(joint);
                if (joint != ROW) {
                    in.next();
                }
            }
            return false;
        }

        void readMinus() {
            if (in.kind == '-') {
                hold(NEGATE);
                in.next();
            }
        }

        void openNested() {
            hold(OPEN);
            depth++;
            in.next();
        }

        void closeNested(Code out) {
            release(SUM_RANK, out);
            held = Math.max(0, held - 1);
            depth--;
            in.next();
        }

        boolean readOne(Code out) {
            boolean number = in.kind == NUMBER;
            if (!number && in.kind != NAME) {
                return false;
            }
            out.add(in.kind, in.start, in.at - in.start);
            in.next();
            if (!number || in.kind != '|') {
                return true;
            }
            int place = in.start;
            in.next();
            if (in.kind != NUMBER) {
                return false;
            }
            out.add(NUMBER, in.start, in.at - in.start);
            out.add(DIVIDE, place, 0);
            in.next();
            return true;
        }

        boolean readPower(Code out) {
            if (in.kind != '^') {
                return true;
            }
            int place = in.start;
            in.next();
            boolean below = in.kind == '-';
            if (below) {
                in.next();
            }
            if (in.kind != NUMBER || !in.digitsAlone) {
                return false;
            }
            int n = in.numberUpTo(MOST_POWER);
            if (n > MOST_POWER) {
                return false;
            }
            out.add(RAISE, place, below ? -n : n);
            in.next();
            return true;
        }

        /** With what the EXPR goes on behind a POWER; NONE where it does not. */
        static int jointFor(int kind) {
            switch (kind) {
                case '+':
                    return ADD;
                case '-':
                    return SUBTRACT;
                case '*':
                    return MULTIPLY;
                case '/':
                    return DIVIDE;
                case NAME:
                case NUMBER:
                case '(':
                    return ROW;
                default:
                    return NONE;
            }
        }

        void hold(int step) {
            if (held < HELD_ROOM) {
                heldSteps[held] = step;
                heldPlaces[held] = in.start;
                held++;
            }
        }

        /** What binds as tightly or more has all that it is done to by now. */
        void release(int rank, Code out) {
            while (held > 0 && rankOf(heldSteps[held - 1]) >= rank) {
                held--;
                int step = heldSteps[held];
                out.add(step == ROW ? MULTIPLY : step, heldPlaces[held], 0);
            }
        }

        static int rankOf(int step) {
            switch (step) {
                case ADD:
                case SUBTRACT:
                    return SUM_RANK;
                case NEGATE:
                    return NEGATE_RANK;
                case MULTIPLY:
                case DIVIDE:
                    return TERM_RANK;
                case ROW:
                    return ROW_RANK;
                default:
                    return 0;
            }
        }
    }

    /** The DEFINITIONS with their texts and steps, the latest being the last in each row. */
    private static final class Book {
        final byte[] text = new byte[TEXT_ROOM];
        final Code code = new Code();
        final int[] sorts = new int[MOST_DEFINITIONS];
        final int[] namePlaces = new int[MOST_DEFINITIONS];
        final int[] nameLengths = new int[MOST_DEFINITIONS];
        final int[] baseNumbers = new int[MOST_DEFINITIONS];
        final int[] codeStarts = new int[MOST_DEFINITIONS];
        final int[] codeEnds = new int[MOST_DEFINITIONS];
        final int[] textEnds = new int[MOST_DEFINITIONS];
        int count;
        int bases;
        int foundPrefix = NONE;
        int foundThing = NONE;

        boolean has(int k) {
            return k >= 0 && k < count;
        }

        int textEnd() {
            return count > 0 ? textEnds[count - 1] : 0;
        }

        int codeEnd() {
            return count > 0 ? codeEnds[count - 1] : 0;
        }

        int byteAt(int i) {
            return i >= 0 && i < TEXT_ROOM ? text[i] : 0;
        }

        /** Where this byte comes first from start on; to where it does not. */
        int textUntil(int start, int to, int wanted) {
            int i = start;
            while (i < to && byteAt(i) != wanted) {
                i++;
            }
            return i;
        }

        /** What went can come back thus, as long as nothing has been added since. */
        void resize(int newCount) {
            count = Math.max(0, Math.min(newCount, MOST_DEFINITIONS));
            bases = 0;
            for (int k = 0; k < count; k++) {
                bases += sorts[k] == BASE ? 1 : 0;
            }
        }

        int objection(int sort, int place, int length) {
            if (find(place, length, sort == PREFIX) != NONE) {
                return TWICE;
            }
            boolean baseTooMany = sort == BASE && bases >= MOST_BASES;
            return count >= MOST_DEFINITIONS || baseTooMany ? MUCH : 0;
        }

        void add(int sort, int place, int length, int textEnd) {
            if (count >= MOST_DEFINITIONS) {
                return;
            }
            int codeStart = codeEnd();
            sorts[count] = sort;
            namePlaces[count] = place;
            nameLengths[count] = length;
            baseNumbers[count] = bases;
            codeStarts[count] = codeStart;
            codeEnds[count] = code.size;
            textEnds[count] = textEnd;
            bases += sort == BASE ? 1 : 0;
            count++;
        }

        int find(int place, int length, boolean prefixes) {
            for (int k = 0; k < count; k++) {
                boolean rightSort = sorts[k] == PREFIX == prefixes;
                if (rightSort && nameLengths[k] == length && begins(k, place)) {
                    return k;
                }
            }
            return NONE;
        }

        boolean begins(int k, int place) {
            for (int i = 0; i < nameLengths[k]; i++) {
                if (byteAt(namePlaces[k] + i) != byteAt(place + i)) {
                    return false;
                }
            }
            return true;
        }

        int findThing(int place, int length) {
            int thing = find(place, length, false);
            if (thing == NONE && length > 1 && byteAt(place + length - 1) == 's') {
                thing = find(place, length - 1, false);
            }
            return thing;
        }

        /** Finds what a NAME stands for; foundThing is NONE where it is UNKNOWN. */
        void findMeaning(int place, int length) {
            foundPrefix = NONE;
            foundThing = findThing(place, length);
            if (foundThing != NONE) {
                return;
            }
            int longest = 0;
            for (int k = 0; k < count; k++) {
                int own = nameLengths[k];
                if (sorts[k] == PREFIX && own > longest && own < length && begins(k, place)) {
                    int thing = findThing(place + own, length - own);
                    if (thing != NONE) {
                        foundPrefix = k;
                        foundThing = thing;
                        longest = own;
                    }
                }
            }
        }
    }

    /** The VALUES of all DEFINITIONS, each with its FAULT, and how far they are reckoned. */
    private static final class Ledger {
        final Value[] values = new Value[MOST_DEFINITIONS];
        final int[] faults = new int[MOST_DEFINITIONS];
        final int[] states = new int[MOST_DEFINITIONS];

        Ledger() {
            for (int k = 0; k < MOST_DEFINITIONS; k++) {
                values[k] = new Value();
            }
        }

        void begin(Book book) {
            for (int k = 0; k < book.count; k++) {
                boolean base = book.sorts[k] == BASE;
                faults[k] = 0;
                states[k] = base ? DONE : NEW;
                if (base) {
                    values[k].setBase(book.baseNumbers[k]);
                }
            }
        }

        int firstNew(int from, int count) {
            for (int k = from; k < count; k++) {
                if (states[k] == NEW) {
                    return k;
                }
            }
            return NONE;
        }

        int firstEndless(int count) {
            for (int k = 0; k < count; k++) {
                if (faults[k] == ENDLESS) {
                    return k;
                }
            }
            return NONE;
        }
    }

    /** Does the steps of texts and DEFINITIONS; a DEFINITION that needs another one waits for it. */
    private static final class Reckoner {
        final Bench bench;
        Ledger ledger = new Ledger();
        Ledger spare = new Ledger();
        final Value[] stack = new Value[STACK_ROOM];
        int held;
        final int[] waiting = new int[MOST_DEFINITIONS];
        final int[] goOnAt = new int[MOST_DEFINITIONS];
        final int[] heldBelow = new int[MOST_DEFINITIONS];
        int waitingCount;
        int at;
        int found;
        int place;

        Reckoner(int bits) {
            bench = new Bench(bits);
        }

        /**
         * Reckons all DEFINITIONS anew. Answers NONE, or the least ENDLESS one: then the VALUES are
         * those from before.
         */
        int settle(Book book) {
            swapLedgers();
            ledger.begin(book);
            waitingCount = 0;
            held = 0;
            int next = 0;
            // Each turn begins a DEFINITION or ends one, but for the last that finds none.
            for (int turn = 0; turn <= 2 * MOST_DEFINITIONS && next != NONE; turn++) {
                if (waitingCount == 0) {
                    next = ledger.firstNew(next, book.count);
                    enter(next, book);
                    continue;
                }
                int top = waitingCount - 1;
                int need = run(book, goOnAt[top], book.codeEnds[waiting[top]]);
                if (need == NONE) {
                    leave();
                } else {
                    goOnAt[top] = at;
                    enter(need, book);
                }
            }
            int endless = ledger.firstEndless(book.count);
            if (endless != NONE) {
                swapLedgers();
            }
            return endless;
        }

        void swapLedgers() {
            Ledger other = ledger;
            ledger = spare;
            spare = other;
        }

        void enter(int k, Book book) {
            if (book.has(k) && waitingCount < MOST_DEFINITIONS) {
                ledger.states[k] = OPENED;
                waiting[waitingCount] = k;
                goOnAt[waitingCount] = book.codeStarts[k];
                heldBelow[waitingCount] = held;
                waitingCount++;
            }
        }

        void leave() {
            if (waitingCount == 0) {
                return;
            }
            waitingCount--;
            int k = waiting[waitingCount];
            held = heldBelow[waitingCount];
            if (found == 0) {
                ledger.values[k].copy(slot(held));
            }
            ledger.faults[k] = found;
            ledger.states[k] = DONE;
        }

        /**
         * Does steps until they end or a FAULT is found; answers NONE then. Else it answers the
         * DEFINITION that must be reckoned first, and the step to go on with is at.
         */
        int run(Book book, int from, int to) {
            Code code = book.code;
            found = 0;
            for (int i = Math.max(from, 0); i < to && i < CODE_ROOM && found == 0; i++) {
                int step = code.steps[i];
                int detail = code.details[i];
                place = code.places[i];
                if (step == NAME) {
                    book.findMeaning(place, detail);
                    int prefix = book.foundPrefix;
                    int thing = book.foundThing;
                    int need = firstNeeded(prefix, thing);
                    if (need != NONE) {
                        at = i;
                        return need;
                    }
                    found = faultOfMeaning(prefix, thing);
                    if (found == 0) {
                        slot(held).copy(ledger.values[prefix == NONE ? thing : prefix]);
                    }
                    if (found == 0 && prefix != NONE) {
                        found = bench.act(MULTIPLY, 0, slot(held), ledger.values[thing]);
                    }
                    held++;
                } else if (step == NUMBER) {
                    found = bench.readNumber(book.text, place, detail, slot(held));
                    held++;
                } else if (step == NEGATE || step == RAISE) {
                    found = bench.act(step, detail, slot(held - 1), slot(held - 1));
                } else {
                    held--;
                    found = bench.act(step, detail, slot(held - 1), slot(held));
                }
            }
            return NONE;
        }

        /** A PREFIX with a FAULT ends the reckoning, so that the other one is not needed then. */
        int firstNeeded(int prefix, int thing) {
            if (prefix != NONE) {
                if (ledger.states[prefix] == NEW) {
                    return prefix;
                }
                if (faultOfName(prefix) != 0) {
                    return NONE;
                }
            }
            return thing != NONE && ledger.states[thing] == NEW ? thing : NONE;
        }

        int faultOfMeaning(int prefix, int thing) {
            if (thing == NONE) {
                return UNKNOWN;
            }
            int first = prefix == NONE ? 0 : faultOfName(prefix);
            return first != 0 ? first : faultOfName(thing);
        }

        /** To come upon a DEFINITION that is still waiting means to come upon it again and again. */
        int faultOfName(int k) {
            return ledger.states[k] == OPENED ? ENDLESS : ledger.faults[k];
        }

        /** VALUES are made when the stack first grows to them, and used again from then on. */
        Value slot(int i) {
            int k = Math.max(0, Math.min(i, STACK_ROOM - 1));
            if (stack[k] == null) {
                stack[k] = new Value();
            }
            return stack[k];
        }
    }

    /** Tells numbers digit by digit. */
    private static final class Decimals {
        final Natural work = new Natural(true);
        final Natural tried = new Natural(true);
        final int[] row = new int[DECIMAL_CHUNKS * CHUNK];
        int count;

        void write(Natural number) {
            work.copy(number);
            count = 0;
            for (int chunk = 0; chunk < DECIMAL_CHUNKS; chunk++) {
                int rest = work.divideSmall(TENS[CHUNK]);
                for (int i = 0; i < CHUNK; i++) {
                    row[count] = rest % 10;
                    rest /= 10;
                    count++;
                }
            }
            while (count > 1 && row[count - 1] == 0) {
                count--;
            }
        }

        int behindPoint(Value value, int i, Bench bench) {
            work.copy(value.top);
            bench.splitBy(work, value.bottom);
            for (int left = i - 1; left > 0; left -= CHUNK) {
                work.timesPlus(TENS[Math.min(left, CHUNK)], 0);
                bench.splitBy(work, value.bottom);
            }
            work.timesPlus(10, 0);
            bench.splitBy(work, value.bottom);
            return bench.quotient.size == 0 ? 0 : bench.quotient.limbs[0];
        }

        /** Divides work by this number as often as that goes, and answers how often. */
        int takeOut(int number) {
            int times = 0;
            for (int i = 0; i < MOST_BITS; i++) {
                tried.copy(work);
                if (tried.divideSmall(number) != 0) {
                    break;
                }
                work.copy(tried);
                times++;
            }
            return times;
        }
    }
}
