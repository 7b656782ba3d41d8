/** Promise 4: sums, differences, products, quotients and rests, exact but for the rounding that is due. */
public final class Promise4ReckonTest {
    private static final long LIMIT = Check.LIMIT;

    public static void main(String[] args) {
        Check check = new Check();
        writtenOut(check);
        againstExactReckoning(check);
        registersMayBeTheSame(check);
        refusesWrongNumbers(check);
        throwsInOrder(check);
        check.end();
    }

    private static void writtenOut(Check check) {
        due(check, 0, 12345, -345, 12000L);
        due(check, 0, LIMIT, 0, LIMIT);
        due(check, 0, LIMIT, 1, Check.ARITHMETIC);
        due(check, 0, -LIMIT, -1, Check.ARITHMETIC);
        due(check, 1, 10000, 25000, -15000L);
        due(check, 1, -LIMIT, 1, Check.ARITHMETIC);
        due(check, 1, -LIMIT, -LIMIT, 0L);
        due(check, 2, 15000, 25000, 37500L);
        due(check, 2, 1, 4999, 0L);
        due(check, 2, 1, 5000, 1L);
        due(check, 2, -1, 5000, -1L);
        due(check, 2, -1, -5000, 1L);
        due(check, 2, 3, 5000, 2L);
        due(check, 2, LIMIT, 10000, LIMIT);
        due(check, 2, LIMIT, 10001, Check.ARITHMETIC);
        due(check, 2, LIMIT, -LIMIT, Check.ARITHMETIC);
        due(check, 2, LIMIT, 1, 90000000000L);
        due(check, 2, 3000000000L, 3000000000L, LIMIT);
        due(check, 2, 3000000000L, 3000000001L, Check.ARITHMETIC);
        // The limit binds the rounded product: 0.4999 above it still rounds down to it, a half does not.
        due(check, 2, 31333, 287237098267003L, LIMIT);
        due(check, 2, -287237098267003L, 31333, -LIMIT);
        due(check, 2, 11860, 758853288364250L, Check.ARITHMETIC);
        due(check, 2, 758853288364250L, -11860, Check.ARITHMETIC);
        due(check, 3, 10000, 30000, 3333L);
        due(check, 3, 20000, 30000, 6667L);
        due(check, 3, -20000, 30000, -6667L);
        due(check, 3, 1, 20000, 1L);
        due(check, 3, 1, -20000, -1L);
        due(check, 3, 1, 20001, 0L);
        due(check, 3, LIMIT, 10000, LIMIT);
        due(check, 3, LIMIT, 9999, Check.ARITHMETIC);
        due(check, 3, LIMIT, 1, Check.ARITHMETIC);
        due(check, 3, 5, 0, Check.UNSUPPORTED);
        due(check, 3, 0, 0, Check.UNSUPPORTED);
        due(check, 4, 70000, 30000, 10000L);
        due(check, 4, -70000, 30000, 20000L);
        due(check, 4, 70000, -30000, -20000L);
        due(check, 4, -70000, -30000, -10000L);
        due(check, 4, -1, LIMIT, LIMIT - 1);
        due(check, 4, 60000, -30000, 0L);
        due(check, 4, 5, 0, Check.UNSUPPORTED);
        due(check, 4, LIMIT, 0, Check.UNSUPPORTED);
    }

    private static void againstExactReckoning(Check check) {
        for (long x : Check.NUMBERS) {
            for (long y : Check.NUMBERS) {
                for (int op = 0; op <= 4; op++) {
                    due(check, op, x, y, Exact.reckoned(op, x, y));
                }
            }
        }
        // Steps without a common measure reach numbers that are no edges.
        long x = 1;
        long y = 3;
        for (int i = 0; i < 20000; i++) {
            x = (x * 31 + 899999977) % LIMIT;
            y = (y * 17 + 600011) % (i % 2 == 0 ? LIMIT : 4000000000L);
            for (int op = 0; op <= 4; op++) {
                due(check, op, i % 3 == 0 ? -x : x, i % 5 == 0 ? -y : y,
                        Exact.reckoned(op, i % 3 == 0 ? -x : x, i % 5 == 0 ? -y : y));
            }
        }
    }

    /** The answer, or the throw, and what the registers hold then. */
    private static void due(Check check, int op, long x, long y, Object want) {
        TenThousandthDesk desk = Check.deskWith(x, y, 77);
        String call = "reckon(2, " + op + ", 0, 1) of " + x + ", " + y;
        check.gives(call, want, () -> desk.reckon(2, op, 0, 1));
        check.registers(call, desk, x, y, want instanceof Long n ? n : 77);
    }

    private static void registersMayBeTheSame(Check check) {
        TenThousandthDesk desk = Check.deskWith(0, 0, 0, 0, 0, 0, 0, 30000);
        check.answers("reckon(7, 2, 7, 7)", 90000, () -> desk.reckon(7, 2, 7, 7));
        check.answers("reckon(6, 1, 6, 7)", -90000, () -> desk.reckon(6, 1, 6, 7));
        check.answers("reckon(7, 3, 6, 7)", -10000, () -> desk.reckon(7, 3, 6, 7));
        check.registers("after all", desk, 0, 0, 0, 0, 0, 0, -90000, -10000);
    }

    private static void refusesWrongNumbers(Check check) {
        TenThousandthDesk desk = Check.deskWith(1, 2, 3, 4, 5, 6, 7, 8);
        for (int bad : Check.NO_REGISTERS) {
            for (int op = 0; op <= 4; op++) {
                int o = op;
                check.throwsOnly("reckon(" + bad + ", " + op + ", 0, 1)", Check.ILLEGAL, () -> desk.reckon(bad, o, 0, 1));
                check.throwsOnly("reckon(0, " + op + ", " + bad + ", 1)", Check.ILLEGAL, () -> desk.reckon(0, o, bad, 1));
                check.throwsOnly("reckon(0, " + op + ", 0, " + bad + ")", Check.ILLEGAL, () -> desk.reckon(0, o, 0, bad));
            }
        }
        for (int op : new int[] {-1, 5, 6, Integer.MIN_VALUE, Integer.MAX_VALUE}) {
            check.throwsOnly("reckon(0, " + op + ", 0, 1)", Check.ILLEGAL, () -> desk.reckon(0, op, 0, 1));
        }
        check.registers("after refusals", desk, 1, 2, 3, 4, 5, 6, 7, 8);
    }

    private static void throwsInOrder(Check check) {
        TenThousandthDesk desk = Check.deskWith(LIMIT, 0, LIMIT);
        check.throwsOnly("wrong r, division by 0", Check.ILLEGAL, () -> desk.reckon(8, 3, 0, 1));
        check.throwsOnly("wrong r, rest by 0", Check.ILLEGAL, () -> desk.reckon(-1, 4, 0, 1));
        check.throwsOnly("wrong op, divisor 0", Check.ILLEGAL, () -> desk.reckon(3, 5, 0, 1));
        check.throwsOnly("wrong r, too great a sum", Check.ILLEGAL, () -> desk.reckon(8, 0, 0, 2));
        check.throwsOnly("wrong r, too great a product", Check.ILLEGAL, () -> desk.reckon(8, 2, 0, 2));
        check.throwsOnly("greatest by 0", Check.UNSUPPORTED, () -> desk.reckon(3, 3, 0, 1));
        check.registers("after throws", desk, LIMIT, 0, LIMIT, 0, 0, 0, 0, 0);
    }
}
