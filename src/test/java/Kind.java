/**
 * FLOATS or DOUBLES, with the numbers at their edges, so that a sentence about both is tested by the
 * same lines. A FLOAT's bits are the lower 32 of a long, those above 0.
 */
abstract class Kind {
    final String name;
    /** How many bits the fraction has. */
    final int fraction;
    final int bias;
    final long sign;
    final long one;
    final long least = 1;
    /** The greatest one that is not normal, and the least normal one. */
    final long small;
    final long normal;
    final long greatest;
    final long infinite;
    final long nan;

    private Kind(String name, int fraction, int bias) {
        this.name = name;
        this.fraction = fraction;
        this.bias = bias;
        this.one = (long) bias << fraction;
        this.normal = 1L << fraction;
        this.small = normal - 1;
        this.infinite = 2L * bias + 1 << fraction;
        this.greatest = infinite - 1;
        this.nan = infinite | 1L << fraction - 1;
        this.sign = infinite + normal;
    }

    static Kind[] both(Check check) {
        return new Kind[] {floats(check), doubles(check)};
    }

    static Kind floats(Check check) {
        return new Kind("FLOAT", 23, 127) {
            @Override
            long act(int act, long a, long b, long c) {
                return check.any().act(act, (int) a, (int) b, (int) c) & 0xFFFFFFFFL;
            }

            @Override
            long whole(int act, long a) {
                return check.any().act(act, (int) a, 0, 0);
            }

            @Override
            int test(int test, long a, long b, long by) {
                return check.any().test(test, (int) a, (int) b, (int) by);
            }
        };
    }

    static Kind doubles(Check check) {
        return new Kind("DOUBLE", 52, 1023) {
            @Override
            long act(int act, long a, long b, long c) {
                return check.any().wide(act, a, b, c);
            }

            @Override
            long whole(int act, long a) {
                return check.any().wide(act, a, 0, 0);
            }

            @Override
            int test(int test, long a, long b, long by) {
                return check.any().wideTest(test, a, b, by);
            }
        };
    }

    /** An ACT that answers a number of this kind. */
    abstract long act(int act, long a, long b, long c);

    /** An ACT of one number that answers a whole number. */
    abstract long whole(int act, long a);

    abstract int test(int test, long a, long b, long by);

    long minus(long a) {
        return a ^ sign;
    }

    /** 2 to the e, which is a number of this kind. */
    long two(int e) {
        return e > -bias ? (long) (e + bias) << fraction : 1L << e + bias - 1 + fraction;
    }

    /** A whole number that this kind has, not 0. */
    long of(long n) {
        long size = Math.abs(n);
        int e = 63 - Long.numberOfLeadingZeros(size);
        long rest = size - (1L << e);
        if (e > fraction && (rest & (1L << e - fraction) - 1) != 0) {
            throw new IllegalArgumentException(name + " has no " + n);
        }
        long bits = two(e) + (e <= fraction ? rest << fraction - e : rest >> e - fraction);
        return n < 0 ? minus(bits) : bits;
    }

    /** One, two and more halves. */
    long halves(long n) {
        return of(n) - normal;
    }

    long[] nans() {
        return new long[] {nan, minus(nan), infinite + 1, minus(infinite + 1), sign - 1, minus(sign - 1),
            nan + 1, minus(nan + 1)};
    }

    /** Numbers of both signs, none of them NaN, both zeros and both infinite ones among them. */
    long[] numbers() {
        long[] sizes = {0, least, small, normal, one - 1, one, one + 1, of(3), greatest, infinite};
        long[] all = new long[2 * sizes.length];
        for (int i = 0; i < sizes.length; i++) {
            all[2 * i] = sizes[i];
            all[2 * i + 1] = minus(sizes[i]);
        }
        return all;
    }

    String told(long a) {
        return "0x" + Long.toHexString(a);
    }
}
