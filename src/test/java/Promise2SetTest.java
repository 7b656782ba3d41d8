/** Promise 2: set puts n into register r alone and answers what it was. */
public final class Promise2SetTest {
    private static final long[] NO_NUMBERS = {
        Check.LIMIT + 1, -Check.LIMIT - 1, Check.LIMIT * 10, Long.MAX_VALUE, Long.MIN_VALUE, Long.MIN_VALUE + 1
    };

    public static void main(String[] args) {
        Check check = new Check();
        answersWhatWas(check);
        takesEveryNumber(check);
        refusesOthers(check);
        check.end();
    }

    private static void answersWhatWas(Check check) {
        TenThousandthDesk desk = new TenThousandthDesk();
        check.answers("set(5, 12345)", 0, () -> desk.set(5, 12345));
        check.answers("set(5, -3)", 12345, () -> desk.set(5, -3));
        check.answers("set(5, -3) again", -3, () -> desk.set(5, -3));
        check.registers("after set", desk, 0, 0, 0, 0, 0, -3, 0, 0);
        for (int r = 0; r < 8; r++) {
            desk.set(r, 10L * r + 1);
        }
        check.registers("all set", desk, 1, 11, 21, 31, 41, 51, 61, 71);
    }

    private static void takesEveryNumber(Check check) {
        for (long n : Check.NUMBERS) {
            TenThousandthDesk desk = new TenThousandthDesk();
            check.answers("set(7, " + n + ")", 0, () -> desk.set(7, n));
            check.answers("set(7, 0) after " + n, n, () -> desk.set(7, 0));
        }
    }

    private static void refusesOthers(Check check) {
        TenThousandthDesk desk = Check.deskWith(1, 2, 3, 4, 5, 6, 7, 8);
        for (int r : Check.NO_REGISTERS) {
            check.throwsOnly("set(" + r + ", 9)", Check.ILLEGAL, () -> desk.set(r, 9));
        }
        for (long n : NO_NUMBERS) {
            check.throwsOnly("set(2, " + n + ")", Check.ILLEGAL, () -> desk.set(2, n));
            check.throwsOnly("set(8, " + n + ")", Check.ILLEGAL, () -> desk.set(8, n));
        }
        check.registers("after refusals", desk, 1, 2, 3, 4, 5, 6, 7, 8);
    }
}
