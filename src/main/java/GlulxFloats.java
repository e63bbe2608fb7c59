/**
 * The floats and doubles of a story's machine, reckoned by their bits alone, and short programs
 * over sixteen words.
 */
public final class GlulxFloats {
    public static final int OUTSIDE = -102, ROOM = -104, NONE = -109;

    private static final int ACTS = 24;
    private static final int TESTS = 8;
    private static final int MOST_PLACES = 40;
    private static final int MOST_DONE = 2000;
    private static final long LOWER = 0xFFFFFFFFL;

    private final Program program;
    private final Digits digits;

    public GlulxFloats() {
        program = new Program();
        digits = new Digits();
    }

    public int act(int act, int a, int b, int c) throws IllegalArgumentException {
        if (act < 0 || act >= ACTS) {
            throw new IllegalArgumentException("there is no such ACT");
        }
        return (int) Form.FLOAT.acted(act, a & LOWER, b & LOWER, c & LOWER);
    }

    public long wide(int act, long a, long b, long c) throws IllegalArgumentException {
        if (act < 0 || act >= ACTS) {
            throw new IllegalArgumentException("there is no such ACT");
        }
        return Form.DOUBLE.acted(act, a, b, c);
    }

    public int test(int test, int a, int b, int by) throws IllegalArgumentException {
        if (test < 0 || test >= TESTS) {
            throw new IllegalArgumentException("there is no such TEST");
        }
        return Form.FLOAT.holds(test, a & LOWER, b & LOWER, by & LOWER) ? 1 : 0;
    }

    public int wideTest(int test, long a, long b, long by) throws IllegalArgumentException {
        if (test < 0 || test >= TESTS) {
            throw new IllegalArgumentException("there is no such TEST");
        }
        return Form.DOUBLE.holds(test, a, b, by) ? 1 : 0;
    }

    public long widen(int a) {
        return Form.DOUBLE.converted(Form.FLOAT, a & LOWER);
    }

    public int narrow(long a) {
        return (int) Form.FLOAT.converted(Form.DOUBLE, a);
    }

    public int half(long a, boolean high) {
        return (int) (high ? a >>> 32 : a);
    }

    public long join(int high, int low) {
        return (long) high << 32 | low & LOWER;
    }

    public int print(int a, int places) {
        if (places < 0 || places > MOST_PLACES) {
            return OUTSIDE;
        }
        return digits.write(a & LOWER, places);
    }

    public int at(int i) {
        return digits.byteAt(i);
    }

    public int set(int k, int v) throws ArrayIndexOutOfBoundsException {
        if (!Program.isWord(k)) {
            throw new ArrayIndexOutOfBoundsException("there is no such WORD");
        }
        return program.replaced(k, v);
    }

    public int word(int k) throws ArrayIndexOutOfBoundsException {
        if (!Program.isWord(k)) {
            throw new ArrayIndexOutOfBoundsException("there is no such WORD");
        }
        return program.wordAt(k);
    }

    public int step(int code, int t, int x, int y, int z) {
        if (!Program.fits(code, t, x, y, z)) {
            return OUTSIDE;
        }
        return program.add(code, t, x, y, z);
    }

    public int drop() {
        return program.forgetSteps();
    }

    public int run(int from, int most) {
        if (!Program.isStep(from) || most < 1 || most > MOST_DONE) {
            return OUTSIDE;
        }
        int place = from;
        int done = 0;
        while (done < most && program.isThere(place)) {
            place = program.follow(place);
            done++;
        }
        program.restAt(place);
        return done;
    }

    public int next() {
        return program.goesOnAt;
    }

    public int clear() {
        digits.forget();
        return program.forgetAll();
    }

    /**
     * An IEEE form. Its numbers are handled as the lower bits of a long, the bits above them 0.
     * A finite number is plain(a) times 2 to the scale(a).
     */
    private enum Form {
        FLOAT(23, 8), DOUBLE(52, 11);

        private static final int UP = 0, DOWN = 1, NEAREST = 2;
        /** So many doublings make any number infinite, so many halvings make it 0. */
        private static final long FARTHEST_SCALE = 5000;

        private final int fraction;
        private final int bias;
        /** The exponent's bits, as a number, of what is infinite or NaN. */
        private final int top;
        /** How many bits of a long the form leaves empty. */
        private final int spare;
        private final long sign;
        private final long one;
        private final long infinity;
        private final long nan;

        Form(int fraction, int exponentBits) {
            this.fraction = fraction;
            this.bias = (1 << (exponentBits - 1)) - 1;
            this.top = (1 << exponentBits) - 1;
            this.spare = 63 - exponentBits - fraction;
            this.sign = 1L << (exponentBits + fraction);
            this.one = (long) this.bias << fraction;
            this.infinity = (long) this.top << fraction;
            this.nan = this.infinity | 1L << (fraction - 1);
        }

        /** The ACT's numbers are the document's. */
        long acted(int act, long a, long b, long c) {
            switch (act) {
                case 0: return sum(a, b);
                case 1: return sum(a, b ^ sign);
                case 2: return product(a, b);
                case 3: return quotient(a, b);
                case 4: return rest(a, b);
                case 5: return quotient(sum(a, rest(a, b) ^ sign), b);
                case 6: return root(a);
                case 7: return whole(a, UP);
                case 8: return whole(a, DOWN);
                case 9: return whole(a, NEAREST);
                case 10: return lesser(a, b);
                case 11: return greater(a, b);
                case 12: return size(a);
                case 13: return a ^ sign;
                case 14: return (b & 32) == 0
                    ? power(a, b & 31)
                    : quotient(one, power(a, 32 - (b & 31)));
                case 15: return scaled(a, b << spare >> spare);
                case 16: return above(a);
                case 17: return size(a) | b & sign;
                case 18: return gap(a);
                case 19: return biased(a) - bias;
                case 20: return fused(a, b, c);
                case 21: return ofWhole((int) a);
                case 22: return cut(a);
                case 23: return isNan(a) ? cut(a) : cut(whole(a, NEAREST));
                default: return nan;
            }
        }

        /** The TEST's numbers are the document's. */
        boolean holds(int test, long a, long b, long by) {
            boolean ordered = !isNan(a) && !isNan(b);
            switch (test) {
                case 0: return isNear(a, b, by);
                case 1: return !isNear(a, b, by);
                case 2: return ordered && rank(a) < rank(b);
                case 3: return ordered && rank(a) <= rank(b);
                case 4: return ordered && rank(a) > rank(b);
                case 5: return ordered && rank(a) >= rank(b);
                case 6: return isNan(a);
                case 7: return isInfinite(a);
                default: return false;
            }
        }

        boolean isNan(long a) {
            return size(a) > infinity;
        }

        boolean isInfinite(long a) {
            return size(a) == infinity;
        }

        boolean isZero(long a) {
            return size(a) == 0;
        }

        boolean isNegative(long a) {
            return (a & sign) != 0;
        }

        private long size(long a) {
            return a & (sign - 1);
        }

        private int biased(long a) {
            return (int) (a >>> fraction) & top;
        }

        /** The whole number that a's digits are, with the leading bit that the form leaves out. */
        long plain(long a) {
            long digits = a & ((1L << fraction) - 1);
            return biased(a) == 0 ? digits : digits | 1L << fraction;
        }

        int scale(long a) {
            return Math.max(biased(a), 1) - bias - fraction;
        }

        /** Orders what is not NaN; both zeros have the same rank. */
        private long rank(long a) {
            return isNegative(a) ? -size(a) : size(a);
        }

        private boolean isNear(long a, long b, long by) {
            if (isNan(a) || isNan(b) || isNan(by)) {
                return false;
            }
            if (isInfinite(a) && isInfinite(b)) {
                return a == b;
            }
            return isInfinite(by) || size(sum(a, b ^ sign)) <= size(by);
        }

        /** The number of this form nearest to a, which is one of another form. */
        long converted(Form other, long a) {
            if (other.isNan(a)) {
                return nan;
            }
            long signed = other.isNegative(a) ? sign : 0;
            if (other.isInfinite(a)) {
                return signed | infinity;
            }
            if (other.isZero(a)) {
                return signed;
            }
            return rounded(other.isNegative(a), other.scale(a), other.plain(a));
        }

        private long sum(long a, long b) {
            if (isNan(a) || isNan(b)) {
                return nan;
            }
            if (isInfinite(a)) {
                return isInfinite(b) && a != b ? nan : a;
            }
            if (isInfinite(b)) {
                return b;
            }
            if (isZero(a) && isZero(b)) {
                return a & b;
            }
            // Two bits stay free above, so that neither the sum nor its sign overflows.
            int shift = 61 - fraction;
            int scale = Math.max(scale(a), scale(b));
            long x = Bits.lowered(plain(a) << shift, scale - scale(a));
            long y = Bits.lowered(plain(b) << shift, scale - scale(b));
            long total = (isNegative(a) ? -x : x) + (isNegative(b) ? -y : y);
            if (total == 0) {
                return 0;
            }
            return rounded(total < 0, scale - shift, Math.abs(total));
        }

        private long product(long a, long b) {
            if (isNan(a) || isNan(b)) {
                return nan;
            }
            long signed = (a ^ b) & sign;
            if (isInfinite(a) || isInfinite(b)) {
                return isZero(a) || isZero(b) ? nan : signed | infinity;
            }
            if (isZero(a) || isZero(b)) {
                return signed;
            }
            long x = plain(a);
            long y = plain(b);
            int left = Bits.zeros(x);
            int right = Bits.zeros(y);
            x <<= left;
            y <<= right;
            long upper = Bits.upperProduct(x, y) | (x * y != 0 ? 1 : 0);
            return rounded(signed != 0, scale(a) - left + scale(b) - right + 64, upper);
        }

        private long quotient(long a, long b) {
            if (isNan(a) || isNan(b) || isInfinite(a) && isInfinite(b) || isZero(a) && isZero(b)) {
                return nan;
            }
            long signed = (a ^ b) & sign;
            if (isInfinite(a) || isZero(b)) {
                return signed | infinity;
            }
            if (isInfinite(b) || isZero(a)) {
                return signed;
            }
            return divided(signed != 0, a, b);
        }

        /** Of finite numbers that are not 0. */
        private long divided(boolean negative, long a, long b) {
            // Both get their leading bit at the same place, so the quotient is never short of bits.
            long rest = plain(a);
            long divisor = plain(b);
            int left = Bits.zeros(rest) - (63 - fraction);
            int right = Bits.zeros(divisor) - (63 - fraction);
            rest <<= left;
            divisor <<= right;
            if (divisor == 0) {
                return nan;
            }
            long digits = rest / divisor;
            rest %= divisor;
            int scale = scale(a) - left - scale(b) + right;
            int chunk = 62 - fraction;
            for (int done = 0; done < fraction + 3; done += chunk) {
                rest <<= chunk;
                digits = digits << chunk | rest / divisor;
                rest %= divisor;
                scale -= chunk;
            }
            return rounded(negative, scale - 1, digits << 1 | (rest != 0 ? 1 : 0));
        }

        private long rest(long a, long b) {
            if (isNan(a) || isNan(b) || isInfinite(a) || isZero(b)) {
                return nan;
            }
            if (isInfinite(b) || size(a) < size(b)) {
                return a;
            }
            long divisor = plain(b);
            if (divisor == 0) {
                return nan;
            }
            long rest = plain(a) % divisor;
            int chunk = 62 - fraction;
            for (int left = scale(a) - scale(b); left > 0; left -= chunk) {
                rest = (rest << Math.min(left, chunk)) % divisor;
            }
            return rest == 0 ? a & sign : rounded(isNegative(a), scale(b), rest);
        }

        private long root(long a) {
            if (isZero(a)) {
                return a;
            }
            if (isNan(a) || isNegative(a)) {
                return nan;
            }
            if (isInfinite(a)) {
                return a;
            }
            int shift = Bits.zeros(plain(a));
            if (((scale(a) - shift) & 1) != 0) {
                shift--;
            }
            long radicand = plain(a) << shift;
            int places = fraction + 3;
            long root = 0;
            long rest = 0;
            // The root by hand, two bits of the radicand for each bit of the root.
            for (int i = 0; i < places; i++) {
                rest = rest << 2 | radicand >>> 62;
                radicand <<= 2;
                long trial = root << 2 | 1;
                root <<= 1;
                if (rest >= trial) {
                    rest -= trial;
                    root |= 1;
                }
            }
            int scale = (scale(a) - shift) / 2 + 32 - places;
            return rounded(false, scale - 1, root << 1 | ((rest | radicand) != 0 ? 1 : 0));
        }

        private long whole(long a, int way) {
            if (isNan(a)) {
                return nan;
            }
            int exponent = biased(a) - bias;
            if (exponent >= fraction || isZero(a)) {
                return a;
            }
            long signed = a & sign;
            if (exponent < 0) {
                long oneHalf = one - (1L << fraction);
                boolean grows = way == NEAREST ? size(a) > oneHalf : (way == UP) == (signed == 0);
                return grows ? signed | one : signed;
            }
            long unit = 1L << (fraction - exponent);
            long kept = a & -unit;
            long rest = a - kept;
            if (rest == 0) {
                return a;
            }
            // Of sizes from 1 up to 2 the unit's bit is the exponent's lowest, set as the bias is odd.
            boolean odd = (kept & unit) != 0;
            boolean grows = way == NEAREST
                ? rest > (unit >> 1) || rest == (unit >> 1) && odd
                : (way == UP) == (signed == 0);
            return grows ? kept + unit : kept;
        }

        private long lesser(long a, long b) {
            if (isNan(a) || isNan(b)) {
                return nan;
            }
            return rank(a) < rank(b) || rank(a) == rank(b) && isNegative(a) ? a : b;
        }

        private long greater(long a, long b) {
            if (isNan(a) || isNan(b)) {
                return nan;
            }
            return rank(a) > rank(b) || rank(a) == rank(b) && !isNegative(a) ? a : b;
        }

        private long power(long a, long times) {
            long result = one;
            for (int i = 0; i < times; i++) {
                result = product(result, a);
            }
            return result;
        }

        private long scaled(long a, long by) {
            if (isNan(a)) {
                return nan;
            }
            if (isInfinite(a) || isZero(a)) {
                return a;
            }
            int doublings = (int) Math.max(-FARTHEST_SCALE, Math.min(FARTHEST_SCALE, by));
            return rounded(isNegative(a), scale(a) + doublings, plain(a));
        }

        private long above(long a) {
            if (isNan(a)) {
                return nan;
            }
            if (isZero(a)) {
                return 1;
            }
            if (a == infinity) {
                return a;
            }
            return isNegative(a) ? a - 1 : a + 1;
        }

        private long gap(long a) {
            if (isNan(a)) {
                return nan;
            }
            return isInfinite(a) ? infinity : rounded(false, scale(a), 1);
        }

        private long fused(long a, long b, long c) {
            if (isNan(a) || isNan(b) || isNan(c)) {
                return nan;
            }
            if (isInfinite(a) || isInfinite(b) || isZero(a) || isZero(b)) {
                return sum(product(a, b), c);
            }
            if (isInfinite(c)) {
                return c;
            }
            // A product too small to keep still has its sign, which a sum with 0 would lose.
            return isZero(c) ? product(a, b) : fusedFinite(a, b, c);
        }

        /** Of finite numbers that are not 0: both parts of the sum stand in 128 bits. */
        private long fusedFinite(long a, long b, long c) {
            long x = plain(a);
            long y = plain(b);
            int left = Bits.zeros(x);
            int right = Bits.zeros(y);
            int own = Bits.zeros(plain(c));
            x <<= left;
            y <<= right;
            // Two bits stay free above, so that neither the sum nor its sign overflows.
            long high = Bits.upperProduct(x, y);
            long low = Bits.loweredLow(high, x * y, 2);
            high >>>= 2;
            int scale = scale(a) - left + scale(b) - right + 2;
            long other = plain(c) << own >>> 2;
            int otherScale = scale(c) - own - 64 + 2;
            int common = Math.max(scale, otherScale);

            low = Bits.loweredLow(high, low, common - scale);
            high = Bits.loweredHigh(high, common - scale);
            long otherLow = Bits.loweredLow(other, 0, common - otherScale);
            other = Bits.loweredHigh(other, common - otherScale);

            // The sum is reckoned as if the product were above 0; its sign comes back at the end.
            boolean negative = isNegative(a) != isNegative(b);
            if (isNegative(c) != negative) {
                other = Bits.negatedHigh(other, otherLow);
                otherLow = -otherLow;
            }
            long totalLow = low + otherLow;
            long total = high + other + (Bits.isBelow(totalLow, low) ? 1 : 0);
            if (total < 0) {
                negative = !negative;
                total = Bits.negatedHigh(total, totalLow);
                totalLow = -totalLow;
            }
            if ((total | totalLow) == 0) {
                return 0;
            }
            int shift = total == 0 ? 0 : 64 - Bits.zeros(total);
            return rounded(negative, common + shift, Bits.loweredLow(total, totalLow, shift));
        }

        private long ofWhole(int n) {
            return n == 0 ? 0 : rounded(n < 0, 0, Math.abs((long) n));
        }

        private long cut(long a) {
            int exponent = biased(a) - bias;
            if (exponent < 0) {
                return 0;
            }
            if (exponent >= 31) {
                return isNegative(a) ? Integer.MIN_VALUE : Integer.MAX_VALUE;
            }
            long n = exponent < fraction
                ? plain(a) >>> (fraction - exponent)
                : plain(a) << (exponent - fraction);
            return isNegative(a) ? -n : n;
        }

        /**
         * The number nearest to m times 2 to the scale, m not 0 and without sign. Where m was cut
         * off, its lowest bit is 1 and stands for what lies below.
         */
        private long rounded(boolean negative, int scale, long m) {
            int zeros = Bits.zeros(m);
            // The leading bit goes below the sign, so that plain compares do.
            long digits = zeros == 0 ? m >>> 1 | m & 1 : m << (zeros - 1);
            int exponent = scale + 63 - zeros + bias;
            long signed = negative ? sign : 0;
            if (exponent >= top) {
                return signed | infinity;
            }
            int cutOff = 62 - fraction + Math.max(1 - exponent, 0);
            if (cutOff > 63) {
                return signed;
            }
            long kept = digits >>> cutOff;
            long rest = digits - (kept << cutOff);
            long tie = 1L << (cutOff - 1);
            if (rest > tie || rest == tie && (kept & 1) != 0) {
                kept++;
            }
            // kept has the leading bit, which adds 1 to the exponent; so does a carry out of it.
            return signed | ((long) (Math.max(exponent, 1) - 1) << fraction) + kept;
        }
    }

    /** Longs as rows of bits without sign, and pairs of them as rows of 128. */
    private static final class Bits {
        /** How many bits 0 stand above the first 1; m is not 0. */
        static int zeros(long m) {
            int n = 0;
            long rest = m;
            if (rest >>> 32 == 0) {
                n += 32;
                rest <<= 32;
            }
            if (rest >>> 48 == 0) {
                n += 16;
                rest <<= 16;
            }
            if (rest >>> 56 == 0) {
                n += 8;
                rest <<= 8;
            }
            if (rest >>> 60 == 0) {
                n += 4;
                rest <<= 4;
            }
            if (rest >>> 62 == 0) {
                n += 2;
                rest <<= 2;
            }
            return rest < 0 ? n : n + 1;
        }

        static boolean isBelow(long a, long b) {
            return a + Long.MIN_VALUE < b + Long.MIN_VALUE;
        }

        static long upperProduct(long a, long b) {
            long aHigh = a >>> 32;
            long aLow = a & LOWER;
            long bHigh = b >>> 32;
            long bLow = b & LOWER;
            long first = aHigh * bLow + (aLow * bLow >>> 32);
            long second = aLow * bHigh + (first & LOWER);
            return aHigh * bHigh + (first >>> 32) + (second >>> 32);
        }

        /** m shifted down; the lowest bit becomes 1 if a bit 1 is lost. */
        static long lowered(long m, int by) {
            return loweredLow(0, m, by);
        }

        static long loweredHigh(long high, int by) {
            return by < 64 ? high >>> by : 0;
        }

        /** The lower half of a pair shifted down; the lowest bit becomes 1 if a bit 1 is lost. */
        static long loweredLow(long high, long low, int by) {
            if (by == 0) {
                return low;
            }
            if (by < 64) {
                return high << (64 - by) | low >>> by | (low << (64 - by) != 0 ? 1 : 0);
            }
            if (by == 64) {
                return high | (low != 0 ? 1 : 0);
            }
            if (by < 128) {
                return high >>> (by - 64) | ((high << (128 - by) | low) != 0 ? 1 : 0);
            }
            return (high | low) != 0 ? 1 : 0;
        }

        static long negatedHigh(long high, long low) {
            return low == 0 ? -high : ~high;
        }
    }

    /** What was PRINTED last. */
    private static final class Digits {
        /** A FLOAT's bits reach from 149 places below the point to 128 above it. */
        private static final int PARTS_BELOW = 5, PARTS = 10;
        private static final int MOST_WHOLE_DIGITS = 39;

        private final byte[] text;
        private int length;
        /** One number in parts of 32 bits, the lowest first, the point above PARTS_BELOW of them. */
        private final long[] parts;

        Digits() {
            text = new byte[1 + MOST_WHOLE_DIGITS + 1 + MOST_PLACES];
            parts = new long[PARTS];
        }

        void forget() {
            length = 0;
        }

        int byteAt(int i) {
            return i < 0 || i >= length || i >= text.length ? NONE : text[i];
        }

        int write(long a, int places) {
            length = 0;
            if (Form.FLOAT.isNan(a)) {
                putThree('n', 'a', 'n');
                return length;
            }
            if (Form.FLOAT.isNegative(a)) {
                put('-');
            }
            if (Form.FLOAT.isInfinite(a)) {
                putThree('i', 'n', 'f');
                return length;
            }
            load(Form.FLOAT.plain(a), Form.FLOAT.scale(a));
            putWhole();
            if (places > 0) {
                put('.');
                putFraction(places);
            }
            return length;
        }

        private void put(int character) {
            if (length >= 0 && length < text.length) {
                text[length] = (byte) character;
                length++;
            }
        }

        private void putThree(char first, char second, char third) {
            put(first);
            put(second);
            put(third);
        }

        private void load(long m, int scale) {
            for (int i = 0; i < PARTS; i++) {
                parts[i] = 0;
            }
            int place = PARTS_BELOW * 32 + scale;
            int i = place >> 5;
            if (i < 0 || i + 1 >= PARTS) {
                return;
            }
            long shifted = m << (place & 31);
            parts[i] = shifted & LOWER;
            parts[i + 1] = shifted >>> 32;
        }

        private void putWhole() {
            int start = length;
            boolean more = true;
            for (int n = 0; n < MOST_WHOLE_DIGITS && more; n++) {
                put('0' + takeLastDigit());
                more = hasWholePart();
            }
            turnRound(start, length - 1);
        }

        /** Divides the whole part by ten, and answers the rest. */
        private int takeLastDigit() {
            long rest = 0;
            for (int i = PARTS - 1; i >= PARTS_BELOW; i--) {
                long part = rest << 32 | parts[i];
                parts[i] = part / 10;
                rest = part % 10;
            }
            return (int) rest;
        }

        private boolean hasWholePart() {
            for (int i = PARTS_BELOW; i < PARTS; i++) {
                if (parts[i] != 0) {
                    return true;
                }
            }
            return false;
        }

        private void turnRound(int first, int last) {
            int i = first;
            int k = last;
            while (i < k && i >= 0 && k < text.length) {
                byte kept = text[i];
                text[i] = text[k];
                text[k] = kept;
                i++;
                k--;
            }
        }

        private void putFraction(int places) {
            for (int n = 0; n < places; n++) {
                long carry = 0;
                for (int i = 0; i < PARTS_BELOW; i++) {
                    long part = parts[i] * 10 + carry;
                    parts[i] = part & LOWER;
                    carry = part >>> 32;
                }
                put('0' + (int) carry);
            }
        }
    }

    /** The WORDS and the STEPS over them. */
    private static final class Program {
        private static final int WORDS = 16, MOST_STEPS = 40;
        private static final int FIRST_JUMP = 30;
        private static final int HALT = 40, PUT = 41, ADD = 42, GO = 43;
        private static final int ENDED = -1;

        private final int[] words;
        private final int[] codes;
        private final int[] ts;
        private final int[] xs;
        private final int[] ys;
        private final int[] zs;
        private int count;
        private int goesOnAt;

        Program() {
            words = new int[WORDS];
            codes = new int[MOST_STEPS];
            ts = new int[MOST_STEPS];
            xs = new int[MOST_STEPS];
            ys = new int[MOST_STEPS];
            zs = new int[MOST_STEPS];
            goesOnAt = NONE;
        }

        static boolean isWord(int k) {
            return k >= 0 && k < WORDS;
        }

        static boolean isStep(int k) {
            return k >= 0 && k < MOST_STEPS;
        }

        private static boolean isAct(int code) {
            return code >= 0 && code < ACTS;
        }

        private static boolean isJump(int code) {
            return code >= FIRST_JUMP && code < FIRST_JUMP + TESTS;
        }

        static boolean fits(int code, int t, int x, int y, int z) {
            if (isAct(code) || isJump(code)) {
                boolean target = isAct(code) ? isWord(t) : isStep(t);
                return target && isWord(x) && isWord(y) && isWord(z);
            }
            switch (code) {
                case HALT: return true;
                case PUT: return isWord(t);
                case ADD: return isWord(t) && isWord(x) && isWord(y);
                case GO: return isStep(t);
                default: return false;
            }
        }

        int wordAt(int k) {
            return isWord(k) ? words[k] : 0;
        }

        int replaced(int k, int v) {
            int was = wordAt(k);
            if (isWord(k)) {
                words[k] = v;
            }
            return was;
        }

        int add(int code, int t, int x, int y, int z) {
            if (!isStep(count)) {
                return ROOM;
            }
            codes[count] = code;
            ts[count] = t;
            xs[count] = x;
            ys[count] = y;
            zs[count] = z;
            count++;
            return count;
        }

        int forgetSteps() {
            int was = count;
            count = 0;
            return was;
        }

        int forgetAll() {
            for (int i = 0; i < WORDS; i++) {
                words[i] = 0;
            }
            goesOnAt = NONE;
            return forgetSteps();
        }

        boolean isThere(int k) {
            return isStep(k) && k < count;
        }

        void restAt(int place) {
            goesOnAt = isThere(place) ? place : NONE;
        }

        /** Does STEP k, and answers where it goes on. */
        int follow(int k) {
            if (!isThere(k)) {
                return ENDED;
            }
            int code = codes[k];
            if (isAct(code)) {
                long result = Form.FLOAT.acted(code, read(xs[k]), read(ys[k]), read(zs[k]));
                replaced(ts[k], (int) result);
                return k + 1;
            }
            if (isJump(code)) {
                boolean jumps = Form.FLOAT.holds(
                    code - FIRST_JUMP, read(xs[k]), read(ys[k]), read(zs[k]));
                return jumps ? ts[k] : k + 1;
            }
            switch (code) {
                case PUT:
                    replaced(ts[k], xs[k]);
                    return k + 1;
                case ADD:
                    replaced(ts[k], wordAt(xs[k]) + wordAt(ys[k]));
                    return k + 1;
                case GO:
                    return ts[k];
                default:
                    return ENDED;
            }
        }

        /** A WORD as Form takes it: without sign. */
        private long read(int k) {
            return wordAt(k) & LOWER;
        }
    }
}
