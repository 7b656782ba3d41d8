/** Promise 1: all registers of a new object are 0, whatever other objects hold. */
public final class Promise1NewObjectTest {
    public static void main(String[] args) {
        Check check = new Check();
        TenThousandthDesk first = new TenThousandthDesk();
        check.registers("new", first, 0, 0, 0, 0, 0, 0, 0, 0);
        for (int r = 0; r < 8; r++) {
            first.set(r, r + 1);
        }
        TenThousandthDesk second = new TenThousandthDesk();
        check.registers("new beside a used one", second, 0, 0, 0, 0, 0, 0, 0, 0);
        second.set(3, -7);
        check.registers("used beside another", first, 1, 2, 3, 4, 5, 6, 7, 8);
        check.end();
    }
}
