/** Promise 5: the hundredth, the greatest whole number not above, the size, and the number turned. */
public final class Promise5TurnTest {
    private static final long LIMIT = Check.LIMIT;

    public static void main(String[] args) {
        Check check = new Check();
        writtenOut(check);
        for (long x : Check.NUMBERS) {
            for (int op = 0; op <= 3; op++) {
                due(check, op, x, Exact.turned(op, x));
            }
        }
        TenThousandthDesk desk = Check.deskWith(0, -12345);
        check.answers("turn(1, 1, 1)", -20000, () -> desk.turn(1, 1, 1));
        check.answers("turn(7, 2, 1)", 20000, () -> desk.turn(7, 2, 1));
        check.registers("after turns", desk, 0, -20000, 0, 0, 0, 0, 0, 20000);
        refusesWrongNumbers(check);
        check.end();
    }

    private static void writtenOut(Check check) {
        due(check, 0, 12345, 123);
        due(check, 0, 12350, 124);
        due(check, 0, -12350, -124);
        due(check, 0, 49, 0);
        due(check, 0, 50, 1);
        due(check, 0, -50, -1);
        due(check, 0, -49, 0);
        due(check, 0, LIMIT, 9000000000000L);
        due(check, 1, 19999, 10000);
        due(check, 1, 20000, 20000);
        due(check, 1, -1, -10000);
        due(check, 1, -10000, -10000);
        due(check, 1, -10001, -20000);
        due(check, 1, LIMIT - 1, LIMIT - 10000);
        due(check, 1, -LIMIT + 1, -LIMIT);
        due(check, 2, -LIMIT, LIMIT);
        due(check, 2, 7, 7);
        due(check, 3, LIMIT, -LIMIT);
        due(check, 3, -7, 7);
        due(check, 3, 0, 0);
    }

    private static void due(Check check, int op, long x, long want) {
        TenThousandthDesk desk = Check.deskWith(x, 77, 78);
        String call = "turn(1, " + op + ", 0) of " + x;
        check.answers(call, want, () -> desk.turn(1, op, 0));
        check.registers(call, desk, x, want, 78);
    }

    private static void refusesWrongNumbers(Check check) {
        TenThousandthDesk desk = Check.deskWith(1, 2, 3, 4, 5, 6, 7, 8);
        for (int bad : Check.NO_REGISTERS) {
            for (int op = 0; op <= 3; op++) {
                int o = op;
                check.throwsOnly("turn(" + bad + ", " + op + ", 0)", Check.ILLEGAL, () -> desk.turn(bad, o, 0));
                check.throwsOnly("turn(0, " + op + ", " + bad + ")", Check.ILLEGAL, () -> desk.turn(0, o, bad));
            }
        }
        for (int op : new int[] {-1, 4, 5, Integer.MIN_VALUE, Integer.MAX_VALUE}) {
            check.throwsOnly("turn(0, " + op + ", 1)", Check.ILLEGAL, () -> desk.turn(0, op, 1));
        }
        check.registers("after refusals", desk, 1, 2, 3, 4, 5, 6, 7, 8);
    }
}
