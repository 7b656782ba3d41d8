/** Promise 7: a register's shortest text, byte by byte. */
public final class Promise7PrintTest {
    public static void main(String[] args) {
        Check check = new Check();
        writtenOut(check);
        for (long n : Check.NUMBERS) {
            due(check, n, Exact.printed(n));
        }
        for (long n = -20100; n <= 20100; n += 7) {
            due(check, n, Exact.printed(n));
        }
        neverPrintsMinusZero(check);
        answersNothingBehindTheEnd(check);
        refusesWrongNumbers(check);
        check.end();
    }

    private static void writtenOut(Check check) {
        due(check, 0, "0");
        due(check, 1, "0.0001");
        due(check, -1, "-0.0001");
        due(check, 10, "0.001");
        due(check, 100, "0.01");
        due(check, 5000, "0.5");
        due(check, -5000, "-0.5");
        due(check, 10000, "1");
        due(check, -10000, "-1");
        due(check, 100000, "10");
        due(check, 10010, "1.001");
        due(check, 10101, "1.0101");
        due(check, 1234500, "123.45");
        due(check, Check.LIMIT, "90000000000");
        due(check, -Check.LIMIT + 1, "-89999999999.9999");
    }

    private static void due(Check check, long n, String want) {
        TenThousandthDesk desk = Check.deskWith(1, 2, 3, 4, 5, 6, 7, n);
        check.same("print of " + n, want, Check.printed(desk, 7));
        check.answers("register after print of " + n, n, () -> desk.get(7));
    }

    private static void neverPrintsMinusZero(Check check) {
        TenThousandthDesk desk = Check.deskWith(0, -1, 4999);
        desk.turn(3, 3, 0);
        check.same("0 turned", "0", Check.printed(desk, 3));
        desk.reckon(3, 2, 1, 2);
        check.same("-0.0001 times 0.4999", "0", Check.printed(desk, 3));
        desk.round(3, 1, 0);
        check.same("-0.0001 rounded to whole", "0", Check.printed(desk, 3));
    }

    private static void answersNothingBehindTheEnd(Check check) {
        TenThousandthDesk desk = Check.deskWith(12500, -20000, 0);
        for (int i : new int[] {4, 5, 6, 7, 8, 100, Integer.MAX_VALUE - 1, Integer.MAX_VALUE}) {
            check.answers("print(0, " + i + ") of 1.25", -1, () -> desk.print(0, i));
            check.answers("print(1, " + i + ") of -2", -1, () -> desk.print(1, i));
            check.answers("print(2, " + i + ") of 0", -1, () -> desk.print(2, i));
        }
    }

    private static void refusesWrongNumbers(Check check) {
        TenThousandthDesk desk = Check.deskWith(1, -2);
        for (int bad : Check.NO_REGISTERS) {
            check.throwsOnly("print(" + bad + ", 0)", Check.ILLEGAL, () -> desk.print(bad, 0));
        }
        for (int i : new int[] {-1, -2, Integer.MIN_VALUE}) {
            check.throwsOnly("print(0, " + i + ")", Check.ILLEGAL, () -> desk.print(0, i));
            check.throwsOnly("print(1, " + i + ")", Check.ILLEGAL, () -> desk.print(1, i));
        }
        check.registers("after refusals", desk, 1, -2, 0, 0, 0, 0, 0, 0);
    }
}
