/**
 * Eight registers of numbers with four digits behind the point, kept exactly.
 *
 * Every number is held times 10000, as a long, so that no digit is ever lost.
 */
public final class TenThousandthDesk {
    private static final int REGISTERS = 8;
    private static final int PLACES = 4;
    private static final long ONE = 10000L;
    private static final long LIMIT = 900000000000000L;

    private static final int SUM = 0;
    private static final int DIFFERENCE = 1;
    private static final int PRODUCT = 2;
    private static final int QUOTIENT = 3;
    private static final int REST = 4;

    private static final int HUNDREDTH = 0;
    private static final int FLOOR = 1;
    private static final int SIZE = 2;
    private static final int TURNED = 3;

    private static final int FEWEST_DIGITS = -9;
    private static final int NO_BYTE = -1;

    private static final long[] POWERS_OF_TEN = {
        1L, 10L, 100L, 1000L, 10000L, 100000L, 1000000L, 10000000L, 100000000L, 1000000000L,
        10000000000L, 100000000000L, 1000000000000L, 10000000000000L
    };
    /** 90000000000, the greatest number, has so many digits before the point. */
    private static final int MOST_WHOLE_DIGITS = 11;

    private final long[] registers;

    public TenThousandthDesk() {
        registers = new long[REGISTERS];
    }

    public long set(int r, long n) throws IllegalArgumentException {
        if (!isRegister(r) || !isNumber(n)) {
            throw new IllegalArgumentException();
        }
        long before = registers[r];
        registers[r] = n;
        return before;
    }

    public long get(int r) throws IllegalArgumentException {
        if (!isRegister(r)) {
            throw new IllegalArgumentException();
        }
        return registers[r];
    }

    public long reckon(int r, int op, int a, int b)
            throws IllegalArgumentException, UnsupportedOperationException, ArithmeticException {
        if (!isRegister(r) || !isRegister(a) || !isRegister(b) || op < SUM || op > REST) {
            throw new IllegalArgumentException();
        }
        long result = limited(reckoned(op, registers[a], registers[b]));
        registers[r] = result;
        return result;
    }

    public long turn(int r, int op, int a) throws IllegalArgumentException, ArithmeticException {
        if (!isRegister(r) || !isRegister(a) || op < HUNDREDTH || op > TURNED) {
            throw new IllegalArgumentException();
        }
        long result = limited(turned(op, registers[a]));
        registers[r] = result;
        return result;
    }

    public long round(int r, int a, int digits) throws IllegalArgumentException, ArithmeticException {
        if (!isRegister(r) || !isRegister(a) || digits < FEWEST_DIGITS || digits > PLACES) {
            throw new IllegalArgumentException();
        }
        long unit = POWERS_OF_TEN[PLACES - digits];
        long result = limited(roundedQuotient(registers[a], unit) * unit);
        registers[r] = result;
        return result;
    }

    public int print(int a, int i) throws IllegalArgumentException {
        if (!isRegister(a) || i < 0) {
            throw new IllegalArgumentException();
        }
        long n = registers[a];
        if (n >= 0) {
            return printedByte(n, i);
        }
        return i == 0 ? '-' : printedByte(-n, i - 1);
    }

    public long average(int n) throws IllegalArgumentException, ArithmeticException {
        if (n < 1 || n > REGISTERS) {
            throw new IllegalArgumentException();
        }
        long sum = 0;
        for (int i = 0; i < n; i++) {
            sum = limited(sum + registers[i]);
        }
        return roundedQuotient(sum, n);
    }

    private static boolean isRegister(int r) {
        return r >= 0 && r < REGISTERS;
    }

    private static boolean isNumber(long n) {
        return n >= -LIMIT && n <= LIMIT;
    }

    private static long limited(long result) {
        if (!isNumber(result)) {
            throw new ArithmeticException();
        }
        return result;
    }

    private static long reckoned(int op, long x, long y) {
        if (y == 0 && (op == QUOTIENT || op == REST)) {
            throw new UnsupportedOperationException();
        }
        switch (op) {
            case SUM:
                return x + y;
            case DIFFERENCE:
                return x - y;
            case PRODUCT:
                return product(x, y);
            case QUOTIENT:
                // At most 9 * 10^18, which a long still holds.
                return roundedQuotient(x * ONE, y);
            default:
                return Math.floorMod(x, y);
        }
    }

    private static long turned(int op, long x) {
        switch (op) {
            case HUNDREDTH:
                return roundedQuotient(x, 100L);
            case FLOOR:
                return Math.floorDiv(x, ONE) * ONE;
            case SIZE:
                return Math.abs(x);
            default:
                return -x;
        }
    }

    private static long product(long x, long y) {
        long size = productOfSizes(Math.abs(x), Math.abs(y));
        return (x < 0) == (y < 0) ? size : -size;
    }

    /**
     * x is split at its point because x * y may be greater than a long: the whole part is looked
     * at before it is multiplied, the rest is below 10000 and its product stays below 9 * 10^18.
     */
    private static long productOfSizes(long x, long y) {
        long whole = x / ONE;
        if (whole != 0 && y > LIMIT / whole) {
            throw new ArithmeticException();
        }
        return whole * y + roundedQuotient(x % ONE * y, ONE);
    }

    /** Halves away from 0; the caller has made sure that the divisor is not 0. */
    private static long roundedQuotient(long dividend, long divisor) {
        long size = Math.abs(dividend);
        long by = Math.abs(divisor);
        long quotient = size / by;
        long rest = size % by;
        if (rest >= by - rest) {
            quotient++;
        }
        return (dividend < 0) == (divisor < 0) ? quotient : -quotient;
    }

    private static int printedByte(long size, int i) {
        long whole = size / ONE;
        int wholeDigits = wholeDigits(whole);
        if (i < wholeDigits) {
            return digit(whole, wholeDigits - 1 - i);
        }
        return byteBehindWhole(size % ONE, i - wholeDigits);
    }

    /** Byte 0 is the point; zeros at the end are left out, as the text is as short as can be. */
    private static int byteBehindWhole(long fraction, int i) {
        if (i > PLACES || fraction == 0) {
            return NO_BYTE;
        }
        if (i == 0) {
            return '.';
        }
        int place = PLACES - i;
        boolean onlyZerosFromHere = fraction % POWERS_OF_TEN[place + 1] == 0;
        return onlyZerosFromHere ? NO_BYTE : digit(fraction, place);
    }

    private static int wholeDigits(long whole) {
        int count = 1;
        while (count < MOST_WHOLE_DIGITS && whole >= POWERS_OF_TEN[count]) {
            count++;
        }
        return count;
    }

    private static int digit(long n, int place) {
        return '0' + (int) (n / POWERS_OF_TEN[place] % 10);
    }
}
