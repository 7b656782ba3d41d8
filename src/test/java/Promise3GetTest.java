/** Promise 3: get answers what a register holds and changes nothing. */
public final class Promise3GetTest {
    public static void main(String[] args) {
        Check check = new Check();
        TenThousandthDesk desk = Check.deskWith(Check.LIMIT, -Check.LIMIT, 1, -1, 0, 12345, -5000, 99);
        check.registers("first", desk, Check.LIMIT, -Check.LIMIT, 1, -1, 0, 12345, -5000, 99);
        check.registers("again", desk, Check.LIMIT, -Check.LIMIT, 1, -1, 0, 12345, -5000, 99);
        for (int r : Check.NO_REGISTERS) {
            check.throwsOnly("get(" + r + ")", Check.ILLEGAL, () -> desk.get(r));
        }
        check.registers("after refusals", desk, Check.LIMIT, -Check.LIMIT, 1, -1, 0, 12345, -5000, 99);
        desk.reckon(4, 0, 2, 5);
        check.answers("get(4) after a sum", 12346, () -> desk.get(4));
        check.end();
    }
}
