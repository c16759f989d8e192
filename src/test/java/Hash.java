import java.math.BigInteger;

/** The hash of promise 33, counted without an overflow and only then cut down to a long. */
final class Hash {
    private Hash() {
    }

    static BigInteger whole(long... values) {
        BigInteger h = BigInteger.valueOf(18084);
        for (long v : values) {
            h = h.multiply(BigInteger.valueOf(31)).add(BigInteger.valueOf(v));
        }
        return h;
    }

    static long of(long... values) {
        return whole(values).longValue();
    }
}
