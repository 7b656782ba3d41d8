public final class NewObjectTest {
    public static void main(String[] args) {
        TenThousandthDesk desk = new TenThousandthDesk();
        for (int r = 0; r < 8; r++) if (desk.get(r) != 0) System.exit(1);
    }
}
