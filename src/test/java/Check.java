import java.util.Objects;

/** Counts the calls whose answer is not the one that is due, and ends the test by that count. */
final class Check {
    interface Call {
        long answer();
    }

    static final Class<IllegalArgumentException> ILLEGAL = IllegalArgumentException.class;
    static final Class<UnsupportedOperationException> UNSUPPORTED = UnsupportedOperationException.class;
    static final Class<ArithmeticException> ARITHMETIC = ArithmeticException.class;

    static final long LIMIT = 900000000000000L;

    /** Numbers round the edges of signs, halves, digits and limits. */
    static final long[] NUMBERS = edgeNumbers();

    static final int[] NO_REGISTERS = {-1, 8, 9, 100, Integer.MIN_VALUE, Integer.MAX_VALUE};

    private int wrong = 0;
    private int calls = 0;

    void answers(String call, long want, Call asked) {
        same(call, Long.toString(want), told(asked));
    }

    void throwsOnly(String call, Class<? extends RuntimeException> want, Call asked) {
        same(call, want.getSimpleName(), told(asked));
    }

    /** want: a Long, or the exception that is due. */
    void gives(String call, Object want, Call asked) {
        same(call, want instanceof Class<?> c ? c.getSimpleName() : want.toString(), told(asked));
    }

    void same(String what, String want, String got) {
        calls++;
        if (!Objects.equals(want, got)) {
            wrong++;
            System.out.println(what + " gave " + got + ", due is " + want);
        }
    }

    void registers(String when, TenThousandthDesk desk, long... want) {
        for (int r = 0; r < want.length; r++) {
            int register = r;
            answers(when + ": get(" + r + ")", want[r], () -> desk.get(register));
        }
    }

    void end() {
        System.out.println(calls + " looked at, " + wrong + " wrong");
        if (wrong != 0 || calls == 0) {
            System.exit(1);
        }
    }

    static TenThousandthDesk deskWith(long... numbers) {
        TenThousandthDesk desk = new TenThousandthDesk();
        for (int r = 0; r < numbers.length; r++) {
            desk.set(r, numbers[r]);
        }
        return desk;
    }

    /** Reads far behind the end too, where every byte is -1. */
    static String printed(TenThousandthDesk desk, int a) {
        StringBuilder text = new StringBuilder();
        boolean ended = false;
        for (int i = 0; i < 40; i++) {
            int b = desk.print(a, i);
            if (b != -1) {
                text.append(ended ? " and behind its end " : "").append((char) b);
            }
            ended = b == -1;
        }
        return ended ? text.toString() : text.append(" without an end").toString();
    }

    private static String told(Call asked) {
        try {
            return Long.toString(asked.answer());
        } catch (RuntimeException e) {
            return e.getClass().getSimpleName();
        }
    }

    private static long[] edgeNumbers() {
        java.util.TreeSet<Long> all = new java.util.TreeSet<>();
        long[] middles = {0, 50, 150, 4999, 5001, 12345, 15000, 25000, 30000000, 300000000, 67082039,
            94868330, 123456789012L, 428571428571428L, 450000000000000L, 899999999990000L, LIMIT};
        for (long middle : middles) {
            addRound(all, middle);
        }
        for (long ten = 1; ten <= 100000000000000L; ten *= 10) {
            addRound(all, ten);
            addRound(all, ten * 5);
        }
        return all.stream().mapToLong(Long::longValue).toArray();
    }

    private static void addRound(java.util.Set<Long> all, long middle) {
        for (long n = middle - 1; n <= middle + 1; n++) {
            if (Math.abs(n) <= LIMIT) {
                all.add(n);
                all.add(-n);
            }
        }
    }
}
