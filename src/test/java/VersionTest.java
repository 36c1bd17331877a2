/** Promise 17: version. */
public final class VersionTest {
    public static void main(String[] args) {
        Due due = new Due("VersionTest");
        EscrowedVersions x = Prepared.withVersions(4);
        Prepared.someCoins(x, 28);
        x.destroy(0);
        x.split(1, 8, 8);
        x.lock(1);
        for (int i = 8; i >= 2; i--) {
            x.give(1, i, x.share(i));
        }
        x.split(2, 1, 8);
        int[][] want = {{3, 0, 0, 0}, {2, 1, 136, 508}, {2, 0, 24, 0}, {1, 0, 0, 0}};
        for (int v = 0; v < 4; v++) {
            for (int what = 0; what < 4; what++) {
                due.is("version(" + v + ", " + what + ")", x.version(v, what), want[v][what]);
            }
            int[] wrong = {-1, 4, Integer.MIN_VALUE, Integer.MAX_VALUE};
            for (int what : wrong) {
                due.is("version(" + v + ", " + what + ")", x.version(v, what), EscrowedVersions.BAD);
            }
        }
        int[] none = {-1, 4, 7, 8, Integer.MIN_VALUE, Integer.MAX_VALUE};
        for (int v : none) {
            for (int what = -1; what <= 4; what++) {
                due.is("version(" + v + ", " + what + ")", x.version(v, what), EscrowedVersions.BAD);
            }
        }
        due.is("versions()", x.versions(), 4);
        ninth(due);
        due.end();
    }

    /** With all eight versions made, number 8 still names none, in every call that takes a version. */
    private static void ninth(Due due) {
        EscrowedVersions x = Prepared.withVersions(8);
        due.is("version(7, 0) of eight", x.version(7, 0), 1);
        due.is("version(8, 0) of eight", x.version(8, 0), EscrowedVersions.BAD);
        due.is("destroy(8) of eight", x.destroy(8), EscrowedVersions.BAD);
        due.is("split(8, 1, 1) of eight", x.split(8, 1, 1), EscrowedVersions.BAD);
        due.is("lock(8) of eight", x.lock(8), EscrowedVersions.BAD);
        due.is("give(8, 1, 0) of eight", x.give(8, 1, 0), EscrowedVersions.BAD);
        x.wrap(1);
        x.set(0, 8);
        due.is("unwrap() under 8 of eight", x.unwrap(), EscrowedVersions.BAD);
    }
}
