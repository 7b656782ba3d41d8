/** Promise 8: the sum of the first n registers, from left to right, by n. */
public final class Promise8AverageTest {
    private static final long LIMIT = Check.LIMIT;

    public static void main(String[] args) {
        Check check = new Check();
        ordinary(check);
        roundsHalvesAwayFromZero(check);
        looksAtEverySumOnTheWay(check);
        againstExactReckoning(check);
        refusesWrongNumbers(check);
        check.end();
    }

    private static void ordinary(Check check) {
        due(check, 1, 12345L, 12345, 99);
        due(check, 2, 15000L, 10000, 20000, 990000);
        due(check, 3, 0L, -10000, 20000, -10000, 5);
        due(check, 8, 45000L, 10000, 20000, 30000, 40000, 50000, 60000, 70000, 80000);
        due(check, 8, 0L);
    }

    private static void roundsHalvesAwayFromZero(Check check) {
        due(check, 2, 1L, 1, 0);
        due(check, 2, -1L, -1, 0);
        due(check, 2, 2L, 1, 2);
        due(check, 2, -2L, -1, -2);
        due(check, 3, 0L, 1, 0, 0);
        due(check, 3, 1L, 2, 0, 0);
        due(check, 8, 0L, 3, 0, 0, 0, 0, 0, 0, 0);
        due(check, 8, 1L, 3, 0, 0, 0, 0, 0, 0, 1);
        due(check, 8, -1L, -3, 0, 0, 0, 0, 0, 0, -1);
    }

    private static void looksAtEverySumOnTheWay(Check check) {
        due(check, 1, LIMIT, LIMIT, 1);
        due(check, 2, Check.ARITHMETIC, LIMIT, 1);
        due(check, 3, Check.ARITHMETIC, LIMIT, 1, -1);
        due(check, 3, LIMIT / 3, LIMIT, -1, 1);
        due(check, 3, Check.ARITHMETIC, -LIMIT, -1, LIMIT);
        due(check, 3, 0L, -LIMIT + 1, -1, LIMIT);
        due(check, 8, Check.ARITHMETIC, 0, 0, 0, 0, 0, 0, LIMIT, LIMIT);
        due(check, 7, 128571428571429L, 0, 0, 0, 0, 0, 0, LIMIT, LIMIT);
        due(check, 8, Check.ARITHMETIC, LIMIT, LIMIT, -LIMIT, -LIMIT, 0, 0, 0, 0);
        due(check, 8, 0L, LIMIT, -LIMIT, LIMIT, -LIMIT, LIMIT, -LIMIT, LIMIT, -LIMIT);
        due(check, 8, Check.ARITHMETIC, LIMIT, LIMIT, LIMIT, LIMIT, LIMIT, LIMIT, LIMIT, LIMIT);
    }

    private static void againstExactReckoning(Check check) {
        int all = Check.NUMBERS.length;
        for (int start = 0; start < all; start++) {
            for (int step = 1; step < all; step += 5) {
                long[] numbers = new long[8];
                for (int r = 0; r < 8; r++) {
                    numbers[r] = Check.NUMBERS[(start + r * step) % all];
                }
                for (int n = 1; n <= 8; n++) {
                    due(check, n, Exact.averaged(n, numbers), numbers);
                }
            }
        }
    }

    private static void due(Check check, int n, Object want, long... numbers) {
        TenThousandthDesk desk = Check.deskWith(numbers);
        String call = "average(" + n + ") of " + java.util.Arrays.toString(numbers);
        check.gives(call, want, () -> desk.average(n));
        check.registers(call, desk, numbers);
    }

    private static void refusesWrongNumbers(Check check) {
        TenThousandthDesk desk = Check.deskWith(LIMIT, LIMIT, LIMIT);
        for (int n : new int[] {0, -1, 9, 10, Integer.MIN_VALUE, Integer.MAX_VALUE}) {
            check.throwsOnly("average(" + n + ")", Check.ILLEGAL, () -> desk.average(n));
        }
        check.registers("after refusals", desk, LIMIT, LIMIT, LIMIT, 0, 0, 0, 0, 0);
    }
}
