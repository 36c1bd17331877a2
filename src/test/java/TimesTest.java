/** Promise 4: times. */
public final class TimesTest {
    public static void main(String[] args) {
        Due due = new Due("TimesTest");
        EscrowedVersions x = new EscrowedVersions();
        due.is("times(87, 131)", x.times(87, 131), 193);
        due.is("times(2, 128)", x.times(2, 128), 27);
        due.is("times(83, 202)", x.times(83, 202), 1);
        due.is("times(0, 0)", x.times(0, 0), 0);
        due.is("times(255, 255)", x.times(255, 255), 19);
        int[] wrong = {-1, 256, Integer.MIN_VALUE, Integer.MAX_VALUE};
        for (int a : wrong) {
            due.is("times(" + a + ", 1)", x.times(a, 1), EscrowedVersions.BAD);
            due.is("times(1, " + a + ")", x.times(1, a), EscrowedVersions.BAD);
            due.is("times(0, " + a + ")", x.times(0, a), EscrowedVersions.BAD);
            due.is("times(" + a + ", " + a + ")", x.times(a, a), EscrowedVersions.BAD);
        }
        for (int a = 0; a < 256; a++) {
            EscrowedVersions fresh = new EscrowedVersions(); // an object is used for 512 calls at most
            for (int b = 0; b < 256; b++) {
                due.is("times(" + a + ", " + b + ")", fresh.times(a, b), slowProduct(a, b));
            }
        }
        due.end();
    }

    /** The whole product of the polynomials first, then its remainder. */
    private static int slowProduct(int a, int b) {
        int whole = 0;
        for (int k = 0; k < 8; k++) {
            whole ^= (b >> k & 1) * (a << k);
        }
        for (int k = 14; k >= 8; k--) {
            whole ^= (whole >> k & 1) * (0b100011011 << k - 8);
        }
        return whole;
    }
}
