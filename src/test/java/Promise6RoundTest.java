/** Promise 6: rounding to -9 .. 4 digits behind the point, halves away from 0. */
public final class Promise6RoundTest {
    private static final long LIMIT = Check.LIMIT;

    public static void main(String[] args) {
        Check check = new Check();
        writtenOut(check);
        for (long x : Check.NUMBERS) {
            for (int digits = -9; digits <= 4; digits++) {
                due(check, digits, x, Exact.rounded(digits, x));
            }
        }
        TenThousandthDesk desk = Check.deskWith(0, 0, 0, -15000);
        check.answers("round(3, 3, 0)", -20000, () -> desk.round(3, 3, 0));
        check.registers("after round", desk, 0, 0, 0, -20000, 0, 0, 0, 0);
        refusesWrongNumbers(check);
        check.end();
    }

    private static void writtenOut(Check check) {
        due(check, 4, 12345, 12345);
        due(check, 3, 12345, 12350);
        due(check, 3, -12345, -12350);
        due(check, 3, 12344, 12340);
        due(check, 2, 12345, 12300);
        due(check, 1, 12500, 13000);
        due(check, 0, 4999, 0);
        due(check, 0, 5000, 10000);
        due(check, 0, -5000, -10000);
        due(check, 0, -4999, 0);
        due(check, -1, 49999, 0);
        due(check, -1, 50000, 100000);
        due(check, -9, 4999999999999L, 0);
        due(check, -9, 5000000000000L, 10000000000000L);
        due(check, -9, -5000000000000L, -10000000000000L);
        due(check, -9, LIMIT, LIMIT);
        due(check, -9, -LIMIT + 1, -LIMIT);
    }

    private static void due(Check check, int digits, long x, long want) {
        TenThousandthDesk desk = Check.deskWith(x, 77, 78);
        String call = "round(1, 0, " + digits + ") of " + x;
        check.answers(call, want, () -> desk.round(1, 0, digits));
        check.registers(call, desk, x, want, 78);
    }

    private static void refusesWrongNumbers(Check check) {
        TenThousandthDesk desk = Check.deskWith(1, 2, 3, 4, 5, 6, 7, 8);
        for (int bad : Check.NO_REGISTERS) {
            check.throwsOnly("round(" + bad + ", 0, 0)", Check.ILLEGAL, () -> desk.round(bad, 0, 0));
            check.throwsOnly("round(0, " + bad + ", 0)", Check.ILLEGAL, () -> desk.round(0, bad, 0));
        }
        for (int digits : new int[] {-11, -10, 5, 6, Integer.MIN_VALUE, Integer.MAX_VALUE}) {
            check.throwsOnly("round(0, 1, " + digits + ")", Check.ILLEGAL, () -> desk.round(0, 1, digits));
        }
        check.registers("after refusals", desk, 1, 2, 3, 4, 5, 6, 7, 8);
    }
}
