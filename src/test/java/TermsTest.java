/** The sentences of 'Terms' that bind several calls at once; one method for each sentence. */
public final class TermsTest {
    private static final long LIMIT = Check.LIMIT;
    private static final int SUM = 0;
    private static final int DIFFERENCE = 1;
    private static final int PRODUCT = 2;
    private static final int QUOTIENT = 3;
    private static final int REST = 4;

    private static final long[] HELD = {LIMIT, 0, -LIMIT, 15000, -1, 20000, 7, LIMIT};

    public static void main(String[] args) {
        Check check = new Check();
        everyCallTakesRegisters0To7(check);
        numbersOnTheLimitAreTaken(check);
        productsQuotientsAndHundredthsRoundHalvesAwayFromZero(check);
        sumsDifferencesAndRestsAreExact(check);
        resultsOnTheLimitStand(check);
        resultsOneAboveTheLimitThrow(check);
        resultsFarAboveTheLimitThrow(check);
        divisionsByZeroThrow(check);
        wrongNumbersAreThrownFirst(check);
        divisionsByZeroAreThrownBeforeGreatResults(check);
        callsThatThrowChangeNothing(check);
        check.end();
    }

    private static void everyCallTakesRegisters0To7(Check check) {
        long[] averages = {-100000, -50000, -33333, -25000, -20000, -16667, -14286, -12500};
        for (int r = 0; r < 8; r++) {
            int at = r;
            TenThousandthDesk desk = new TenThousandthDesk();
            check.answers("set(" + r + ", 25000)", 0, () -> desk.set(at, 25000));
            check.answers("get(" + r + ")", 25000, () -> desk.get(at));
            check.answers("reckon(" + r + ", 0, " + r + ", " + r + ")", 50000, () -> desk.reckon(at, SUM, at, at));
            check.answers("turn(" + r + ", 3, " + r + ")", -50000, () -> desk.turn(at, 3, at));
            check.answers("round(" + r + ", " + r + ", -1)", -100000, () -> desk.round(at, at, -1));
            check.same("print of register " + r, "-10", Check.printed(desk, r));
            check.answers("average(" + (r + 1) + ")", averages[r], () -> desk.average(at + 1));
        }
    }

    private static void numbersOnTheLimitAreTaken(Check check) {
        TenThousandthDesk desk = new TenThousandthDesk();
        check.answers("set(0, limit)", 0, () -> desk.set(0, LIMIT));
        check.answers("set(0, -limit)", LIMIT, () -> desk.set(0, -LIMIT));
        check.throwsOnly("set(0, limit + 1)", Check.ILLEGAL, () -> desk.set(0, LIMIT + 1));
        check.throwsOnly("set(0, -limit - 1)", Check.ILLEGAL, () -> desk.set(0, -LIMIT - 1));
        // The only long whose size is no long.
        check.throwsOnly("set(0, least long)", Check.ILLEGAL, () -> desk.set(0, Long.MIN_VALUE));
        check.answers("get(0)", -LIMIT, () -> desk.get(0));
    }

    private static void productsQuotientsAndHundredthsRoundHalvesAwayFromZero(Check check) {
        for (int sign = -1; sign <= 1; sign += 2) {
            stands(check, PRODUCT, sign * 4999, 1, 0);
            stands(check, PRODUCT, sign * 5000, 1, sign);
            stands(check, PRODUCT, sign * 15000, -1, sign * -2);
            stands(check, PRODUCT, sign * 25000, 1, sign * 3);
            stands(check, PRODUCT, sign * 15000, 1000000001L, sign * 1500000002L);
            stands(check, QUOTIENT, sign, 20001, 0);
            stands(check, QUOTIENT, sign, 20000, sign);
            stands(check, QUOTIENT, sign * 3, -20000, sign * -2);
            stands(check, QUOTIENT, sign * 5, 20000, sign * 3);
            stands(check, QUOTIENT, sign * (LIMIT - 1), 20000, sign * LIMIT / 2);
            hundredth(check, sign * 49, 0);
            hundredth(check, sign * 50, sign);
            hundredth(check, sign * 149, sign);
            hundredth(check, sign * 150, sign * 2);
            hundredth(check, sign * (LIMIT - 50), sign * LIMIT / 100);
            hundredth(check, sign * (LIMIT - 51), sign * (LIMIT / 100 - 1));
        }
    }

    private static void hundredth(Check check, long x, long want) {
        TenThousandthDesk desk = Check.deskWith(x);
        check.answers("turn(0, 0, 0) of " + x, want, () -> desk.turn(0, 0, 0));
    }

    private static void sumsDifferencesAndRestsAreExact(Check check) {
        stands(check, SUM, LIMIT - 1, -LIMIT, -1);
        stands(check, DIFFERENCE, LIMIT, LIMIT - 1, 1);
        stands(check, REST, LIMIT, 7, LIMIT % 7);
        // The quotient, rounded, would be 1, and one that is only cut off would be 0.
        stands(check, REST, LIMIT - 1, LIMIT, LIMIT - 1);
        stands(check, REST, 1 - LIMIT, LIMIT, 1);
        stands(check, REST, LIMIT - 1, -LIMIT, -1);
        stands(check, REST, 1 - LIMIT, -LIMIT, 1 - LIMIT);
        // The quotient is greater than a number may be, the rest is not.
        stands(check, REST, LIMIT, 1, 0);
        stands(check, REST, -LIMIT, -1, 0);
        stands(check, REST, LIMIT - 1, 2, 1);
        stands(check, REST, 1 - LIMIT, 2, 1);
    }

    private static void resultsOnTheLimitStand(Check check) {
        for (int sign = -1; sign <= 1; sign += 2) {
            stands(check, SUM, sign * (LIMIT - 1), sign, sign * LIMIT);
            stands(check, DIFFERENCE, sign * (LIMIT - 1), -sign, sign * LIMIT);
            stands(check, PRODUCT, LIMIT / 2, sign * 20000, sign * LIMIT);
            stands(check, PRODUCT, sign * 20000, LIMIT / 2, sign * LIMIT);
            stands(check, PRODUCT, -LIMIT, sign * -10000, sign * LIMIT);
            stands(check, QUOTIENT, LIMIT / 2, sign * 5000, sign * LIMIT);
            stands(check, QUOTIENT, -90000000000L, -sign, sign * LIMIT);
        }
    }

    private static void resultsOneAboveTheLimitThrow(Check check) {
        for (int sign = -1; sign <= 1; sign += 2) {
            isTooGreat(check, SUM, sign * LIMIT, sign);
            isTooGreat(check, SUM, sign, sign * LIMIT);
            isTooGreat(check, DIFFERENCE, sign * LIMIT, -sign);
            isTooGreat(check, DIFFERENCE, sign, -sign * LIMIT);
            // 1097 * 820419325433 is the limit and one.
            isTooGreat(check, PRODUCT, 10970000, sign * 820419325433L);
            isTooGreat(check, PRODUCT, sign * 820419325433L, -10970000);
            // By 0.5, the least step is two ten-thousandths.
            isTooGreat(check, QUOTIENT, LIMIT / 2 + 1, sign * 5000);
            isTooGreat(check, QUOTIENT, -LIMIT / 2 - 1, sign * 5000);
            isTooGreat(check, QUOTIENT, LIMIT, sign * 9999);
        }
    }

    /** A long that wraps round would come back among the numbers. */
    private static void resultsFarAboveTheLimitThrow(Check check) {
        for (int sign = -1; sign <= 1; sign += 2) {
            isTooGreat(check, SUM, sign * LIMIT, sign * LIMIT);
            isTooGreat(check, DIFFERENCE, sign * LIMIT, -sign * LIMIT);
            isTooGreat(check, PRODUCT, LIMIT, sign * LIMIT);
            isTooGreat(check, PRODUCT, 1L << 32, sign * (1L << 32));
            isTooGreat(check, PRODUCT, 1L << 40, sign * (1L << 24) * 10000);
            isTooGreat(check, PRODUCT, sign * 10000 * (1L << 30), 1L << 34);
            isTooGreat(check, QUOTIENT, LIMIT, sign);
            isTooGreat(check, QUOTIENT, -LIMIT, sign);
        }
    }

    private static void divisionsByZeroThrow(Check check) {
        for (long x : new long[] {0, 1, -1, LIMIT, -LIMIT}) {
            refused(check, QUOTIENT, x, 0, Check.UNSUPPORTED);
            refused(check, REST, x, 0, Check.UNSUPPORTED);
        }
        stands(check, QUOTIENT, 0, 1, 0);
        stands(check, REST, 0, -1, 0);
        stands(check, PRODUCT, LIMIT, 0, 0);
        stands(check, PRODUCT, 0, -LIMIT, 0);
    }

    private static void wrongNumbersAreThrownFirst(Check check) {
        for (int bad : Check.NO_REGISTERS) {
            TenThousandthDesk desk = Check.deskWith(HELD);
            check.throwsOnly("r " + bad + ", by 0", Check.ILLEGAL, () -> desk.reckon(bad, QUOTIENT, 0, 1));
            check.throwsOnly("a " + bad + ", by 0", Check.ILLEGAL, () -> desk.reckon(3, QUOTIENT, bad, 1));
            check.throwsOnly("r " + bad + ", rest by 0", Check.ILLEGAL, () -> desk.reckon(bad, REST, 0, 1));
            check.throwsOnly("a " + bad + ", rest by 0", Check.ILLEGAL, () -> desk.reckon(3, REST, bad, 1));
            for (int op = SUM; op <= QUOTIENT; op++) {
                int o = op;
                int b = new int[] {7, 2, 7, 4}[op];
                check.throwsOnly("op " + op + ", too great", Check.ARITHMETIC, () -> desk.reckon(3, o, 0, b));
                check.throwsOnly("op " + op + ", r " + bad, Check.ILLEGAL, () -> desk.reckon(bad, o, 0, b));
            }
            check.throwsOnly("set(" + bad + ", limit + 1)", Check.ILLEGAL, () -> desk.set(bad, LIMIT + 1));
        }
        for (int op : new int[] {-1, 5, Integer.MIN_VALUE, Integer.MAX_VALUE}) {
            TenThousandthDesk desk = Check.deskWith(HELD);
            check.throwsOnly("op " + op + ", b is 0", Check.ILLEGAL, () -> desk.reckon(3, op, 0, 1));
            check.throwsOnly("op " + op + ", a and b on the limit", Check.ILLEGAL, () -> desk.reckon(3, op, 0, 7));
        }
        TenThousandthDesk desk = Check.deskWith(LIMIT, LIMIT);
        check.throwsOnly("average(2)", Check.ARITHMETIC, () -> desk.average(2));
        check.throwsOnly("average(9)", Check.ILLEGAL, () -> desk.average(9));
        check.throwsOnly("average(0)", Check.ILLEGAL, () -> desk.average(0));
    }

    private static void divisionsByZeroAreThrownBeforeGreatResults(Check check) {
        TenThousandthDesk desk = Check.deskWith(HELD);
        check.throwsOnly("limit by 0.0001", Check.ARITHMETIC, () -> desk.reckon(3, QUOTIENT, 0, 4));
        check.throwsOnly("limit by 0", Check.UNSUPPORTED, () -> desk.reckon(3, QUOTIENT, 0, 1));
        check.throwsOnly("-limit by 0", Check.UNSUPPORTED, () -> desk.reckon(3, QUOTIENT, 2, 1));
    }

    private static void callsThatThrowChangeNothing(Check check) {
        unchanged(check, "set, number", Check.ILLEGAL, d -> d.set(3, LIMIT + 1));
        unchanged(check, "set, register", Check.ILLEGAL, d -> d.set(8, 1));
        unchanged(check, "get", Check.ILLEGAL, d -> d.get(-1));
        unchanged(check, "sum into a", Check.ARITHMETIC, d -> d.reckon(0, SUM, 0, 7));
        unchanged(check, "sum into b", Check.ARITHMETIC, d -> d.reckon(7, SUM, 0, 7));
        unchanged(check, "sum into another", Check.ARITHMETIC, d -> d.reckon(6, SUM, 0, 7));
        unchanged(check, "difference into a", Check.ARITHMETIC, d -> d.reckon(0, DIFFERENCE, 0, 2));
        unchanged(check, "difference into b", Check.ARITHMETIC, d -> d.reckon(2, DIFFERENCE, 0, 2));
        unchanged(check, "product into both", Check.ARITHMETIC, d -> d.reckon(0, PRODUCT, 0, 0));
        unchanged(check, "product into b", Check.ARITHMETIC, d -> d.reckon(3, PRODUCT, 0, 3));
        unchanged(check, "quotient into b", Check.ARITHMETIC, d -> d.reckon(4, QUOTIENT, 0, 4));
        unchanged(check, "quotient by 0 into a", Check.UNSUPPORTED, d -> d.reckon(3, QUOTIENT, 3, 1));
        unchanged(check, "rest by 0 into b", Check.UNSUPPORTED, d -> d.reckon(1, REST, 3, 1));
        unchanged(check, "reckon, op", Check.ILLEGAL, d -> d.reckon(3, 5, 3, 5));
        unchanged(check, "reckon, a", Check.ILLEGAL, d -> d.reckon(3, SUM, 8, 5));
        unchanged(check, "reckon, b", Check.ILLEGAL, d -> d.reckon(3, SUM, 5, 8));
        unchanged(check, "turn, op", Check.ILLEGAL, d -> d.turn(3, 4, 5));
        unchanged(check, "turn, a", Check.ILLEGAL, d -> d.turn(3, 3, 8));
        unchanged(check, "round, digits below", Check.ILLEGAL, d -> d.round(3, 5, -10));
        unchanged(check, "round, digits above", Check.ILLEGAL, d -> d.round(3, 5, 5));
        unchanged(check, "round, a", Check.ILLEGAL, d -> d.round(3, 8, 0));
        unchanged(check, "print, i", Check.ILLEGAL, d -> d.print(3, -1));
        unchanged(check, "print, a", Check.ILLEGAL, d -> d.print(8, 0));
        unchanged(check, "average, n", Check.ILLEGAL, d -> d.average(9));
        unchanged(check, "average, last sum", Check.ARITHMETIC, d -> d.average(8));
    }

    private interface DeskCall {
        long on(TenThousandthDesk desk);
    }

    private static void unchanged(Check check, String call, Class<? extends RuntimeException> want, DeskCall asked) {
        TenThousandthDesk desk = Check.deskWith(HELD);
        check.throwsOnly(call, want, () -> asked.on(desk));
        check.registers("after " + call, desk, HELD);
    }

    private static void stands(Check check, int op, long x, long y, long want) {
        TenThousandthDesk desk = Check.deskWith(x, y);
        String call = "reckon(2, " + op + ", 0, 1) of " + x + ", " + y;
        check.answers(call, want, () -> desk.reckon(2, op, 0, 1));
        check.registers(call, desk, x, y, want);
    }

    private static void isTooGreat(Check check, int op, long x, long y) {
        refused(check, op, x, y, Check.ARITHMETIC);
    }

    private static void refused(Check check, int op, long x, long y, Class<? extends RuntimeException> want) {
        TenThousandthDesk desk = Check.deskWith(x, y, 77);
        String call = "reckon(2, " + op + ", 0, 1) of " + x + ", " + y;
        check.throwsOnly(call, want, () -> desk.reckon(2, op, 0, 1));
        check.registers(call, desk, x, y, 77);
    }
}
