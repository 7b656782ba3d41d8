import java.util.Arrays;

/** 'What it is': an object is used for at most 512 calls; each of them is answered as the first is. */
public final class UseTest {
    private static final int CALLS = 512;
    private static final int REGISTERS = 8;

    public static void main(String[] args) {
        Check check = new Check();
        everyKindMayBeTheLastCall(check);
        refusedCallsCountAndDoNoHarm(check);
        for (int run = 0; run < 300; run++) {
            new Mixed(check, run).use();
        }
        check.end();
    }

    private static void everyKindMayBeTheLastCall(Check check) {
        last(check, "set(5, 1)", 510, d -> d.set(5, 1));
        last(check, "get(5)", 510, d -> d.get(5));
        last(check, "reckon(1, 0, 4, 5)", 1020, d -> d.reckon(1, 0, 4, 5));
        last(check, "turn(1, 3, 5)", -510, d -> d.turn(1, 3, 5));
        last(check, "round(1, 5, 2)", 500, d -> d.round(1, 5, 2));
        last(check, "print(5, 3)", '5', d -> d.print(5, 3));
        last(check, "average(6)", 170, d -> d.average(6));
    }

    private interface DeskCall {
        long on(TenThousandthDesk desk);
    }

    private static void last(Check check, String call, long want, DeskCall asked) {
        TenThousandthDesk desk = new TenThousandthDesk();
        for (int i = 1; i < CALLS; i++) {
            desk.set(4 + i % 2, 510);
        }
        check.answers(call + " as call " + CALLS, want, () -> asked.on(desk));
    }

    private static void refusedCallsCountAndDoNoHarm(Check check) {
        long[] held = {Check.LIMIT, 0, -Check.LIMIT, 1, -1, 5000, 12345, Check.LIMIT};
        TenThousandthDesk desk = Check.deskWith(held);
        for (int i = REGISTERS; i < CALLS - REGISTERS; i++) {
            int op = i % 5;
            int b = new int[] {7, 2, 7, 1, 1}[op];
            check.throwsOnly("reckon(6, " + op + ", 0, " + b + ") as call " + (i + 1),
                    op < 3 ? Check.ARITHMETIC : Check.UNSUPPORTED, () -> desk.reckon(6, op, 0, b));
        }
        check.registers("after refusals", desk, held);
    }

    /** Calls of every kind, some with wrong numbers; the last ones look at all registers. */
    private static final class Mixed {
        private final Check check;
        private final Steps steps;
        private final TenThousandthDesk desk = new TenThousandthDesk();
        private final long[] held = new long[REGISTERS];

        Mixed(Check check, int run) {
            this.check = check;
            steps = new Steps(run);
        }

        void use() {
            for (int i = 0; i < CALLS - REGISTERS; i++) {
                oneCall();
            }
            check.registers("at the end", desk, held);
        }

        private void oneCall() {
            int r = steps.around(0, 7);
            int a = steps.around(0, 7);
            switch (steps.below(7)) {
                case 0 -> set(r, steps.number());
                case 1 -> get(r);
                case 2 -> reckon(r, steps.around(0, 4), a, steps.around(0, 7));
                case 3 -> turn(r, steps.around(0, 3), a);
                case 4 -> round(r, a, steps.around(-9, 4));
                case 5 -> print(a, steps.around(0, 18));
                default -> average(steps.around(1, 8));
            }
        }

        private void set(int r, long n) {
            boolean right = isIn(r, 0, 7) && Math.abs(n) <= Check.LIMIT;
            gives("set(" + r + ", " + n + ")", right ? (Object) held[r] : Check.ILLEGAL, () -> desk.set(r, n));
            keep(r, right ? (Object) n : Check.ILLEGAL);
        }

        private void get(int r) {
            gives("get(" + r + ")", isIn(r, 0, 7) ? (Object) held[r] : Check.ILLEGAL, () -> desk.get(r));
        }

        private void reckon(int r, int op, int a, int b) {
            boolean right = isIn(r, 0, 7) && isIn(op, 0, 4) && isIn(a, 0, 7) && isIn(b, 0, 7);
            Object want = right ? Exact.reckoned(op, held[a], held[b]) : Check.ILLEGAL;
            gives("reckon(" + r + ", " + op + ", " + a + ", " + b + ")", want, () -> desk.reckon(r, op, a, b));
            keep(r, want);
        }

        private void turn(int r, int op, int a) {
            boolean right = isIn(r, 0, 7) && isIn(op, 0, 3) && isIn(a, 0, 7);
            Object want = right ? (Object) Exact.turned(op, held[a]) : Check.ILLEGAL;
            gives("turn(" + r + ", " + op + ", " + a + ")", want, () -> desk.turn(r, op, a));
            keep(r, want);
        }

        private void round(int r, int a, int digits) {
            boolean right = isIn(r, 0, 7) && isIn(a, 0, 7) && isIn(digits, -9, 4);
            Object want = right ? (Object) Exact.rounded(digits, held[a]) : Check.ILLEGAL;
            gives("round(" + r + ", " + a + ", " + digits + ")", want, () -> desk.round(r, a, digits));
            keep(r, want);
        }

        private void print(int a, int i) {
            boolean right = isIn(a, 0, 7) && i >= 0;
            Object want = right ? (Object) byteAt(Exact.printed(held[a]), i) : Check.ILLEGAL;
            gives("print(" + a + ", " + i + ")", want, () -> desk.print(a, i));
        }

        private void average(int n) {
            Object want = isIn(n, 1, 8) ? Exact.averaged(n, held) : Check.ILLEGAL;
            gives("average(" + n + ")", want, () -> desk.average(n));
        }

        private void gives(String call, Object want, Check.Call asked) {
            check.gives(call + " of " + Arrays.toString(held), want, asked);
        }

        private void keep(int r, Object result) {
            if (result instanceof Long n) {
                held[r] = n;
            }
        }
    }

    private static int byteAt(String text, int i) {
        return i < text.length() ? text.charAt(i) : -1;
    }

    private static boolean isIn(int n, int least, int greatest) {
        return n >= least && n <= greatest;
    }

    /** The same numbers in every run of this test, in no plain order. */
    private static final class Steps {
        private long state;

        Steps(int seed) {
            state = seed;
        }

        int below(int bound) {
            state = state * 6364136223846793005L + 1442695040888963407L;
            return (int) ((state >>> 33) % bound);
        }

        /** Now and then one below or above the bounds. */
        int around(int least, int greatest) {
            int chance = below(60);
            if (chance == 0) {
                return least - 1;
            }
            return chance == 1 ? greatest + 1 : least + below(greatest - least + 1);
        }

        long number() {
            int chance = below(30);
            if (chance == 0) {
                return below(2) == 0 ? Check.LIMIT + 1 : -Check.LIMIT - 1;
            }
            if (chance < 15) {
                return Check.NUMBERS[below(Check.NUMBERS.length)];
            }
            return below(2000001) - 1000000;
        }
    }
}
