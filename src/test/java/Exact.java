import java.math.BigDecimal;
import java.math.RoundingMode;

/**
 * What the document asks of a call whose arguments are in range, reckoned without any limit on the
 * way. Where a call may throw, the answer is a Long or the class of the exception that is due.
 */
final class Exact {
    private static final BigDecimal ONE = new BigDecimal(10000);
    private static final BigDecimal LIMIT = new BigDecimal(Check.LIMIT);

    private Exact() {
    }

    static Object reckoned(int op, long a, long b) {
        if (op >= 3 && b == 0) {
            return Check.UNSUPPORTED;
        }
        BigDecimal x = new BigDecimal(a);
        BigDecimal y = new BigDecimal(b);
        BigDecimal result = switch (op) {
            case 0 -> x.add(y);
            case 1 -> x.subtract(y);
            case 2 -> x.multiply(y).divide(ONE, 0, RoundingMode.HALF_UP);
            case 3 -> x.multiply(ONE).divide(y, 0, RoundingMode.HALF_UP);
            default -> x.subtract(y.multiply(x.divide(y, 0, RoundingMode.FLOOR)));
        };
        return isTooGreat(result) ? Check.ARITHMETIC : (Object) result.longValueExact();
    }

    /** Never too great: the limit is whole, and so a number within it has a whole one below it too. */
    static long turned(int op, long n) {
        BigDecimal x = new BigDecimal(n);
        BigDecimal result = switch (op) {
            case 0 -> x.divide(new BigDecimal(100), 0, RoundingMode.HALF_UP);
            case 1 -> x.divide(ONE, 0, RoundingMode.FLOOR).multiply(ONE);
            case 2 -> x.abs();
            default -> x.negate();
        };
        return result.longValueExact();
    }

    /** Never too great: the limit itself is round even to -9 digits. */
    static long rounded(int digits, long n) {
        return BigDecimal.valueOf(n, 4).setScale(digits, RoundingMode.HALF_UP).movePointRight(4).longValueExact();
    }

    static String printed(long n) {
        return BigDecimal.valueOf(n, 4).stripTrailingZeros().toPlainString();
    }

    static Object averaged(int n, long[] numbers) {
        BigDecimal sum = BigDecimal.ZERO;
        for (int r = 0; r < n; r++) {
            sum = sum.add(new BigDecimal(numbers[r]));
            if (isTooGreat(sum)) {
                return Check.ARITHMETIC;
            }
        }
        return sum.divide(new BigDecimal(n), 0, RoundingMode.HALF_UP).longValueExact();
    }

    private static boolean isTooGreat(BigDecimal result) {
        return result.abs().compareTo(LIMIT) > 0;
    }
}
