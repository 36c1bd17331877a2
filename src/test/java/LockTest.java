/** Promise 9: lock. */
public final class LockTest {
    public static void main(String[] args) {
        Due due = new Due("LockTest");
        locks(due);
        againWithoutSplitting(due);
        refusals(due);
        due.end();
    }

    private static void locks(Due due) {
        EscrowedVersions x = Prepared.withVersions(2);
        Prepared.someCoins(x, 12);
        x.wrap(99);
        x.split(1, 4, 6);
        due.is("lock(1)", x.lock(1), 4);
        due.is("its lock", x.version(1, 1), 1);
        due.is("its state", x.version(1, 0), 1);
        due.is("its escrow", x.version(1, 2), 70);
        due.is("its given shares", x.version(1, 3), 0);
        due.is("the other's lock", x.version(0, 1), 0);
        due.is("kind", x.log(3, 0), 4);
        due.is("version in the log", x.log(3, 1), 1);
        due.is("detail", x.log(3, 2), 0);
        due.is("unwrap()", x.unwrap(), EscrowedVersions.LOCKED);
        due.is("wrap(1)", x.wrap(1), EscrowedVersions.LOCKED);
    }

    /** The escrow outlives the opening, and each locking begins with no shares given. */
    private static void againWithoutSplitting(Due due) {
        EscrowedVersions x = Prepared.withVersions(1);
        Prepared.someCoins(x, 4);
        x.split(0, 2, 3);
        for (int k = 0; k < 3; k++) {
            due.is("lock(0)", x.lock(0), 2);
            due.is("given", x.version(0, 3), 0);
            due.is("the first share", x.give(0, 3, x.share(3)), 1);
            due.is("given", x.version(0, 3), 8);
            due.is("the last share", x.give(0, 1, x.share(1)), 0);
            due.is("lock", x.version(0, 1), 0);
        }
    }

    private static void refusals(Due due) {
        EscrowedVersions x = Prepared.withVersions(4);
        x.split(0, 1, 1);
        x.destroy(0);
        x.split(1, 1, 1);
        x.lock(1);
        String before = Prepared.state(x);
        int[] none = {-1, 4, 8, Integer.MIN_VALUE, Integer.MAX_VALUE};
        for (int v : none) {
            due.is("lock(" + v + ")", x.lock(v), EscrowedVersions.BAD);
        }
        due.is("lock(0)", x.lock(0), EscrowedVersions.GONE);
        due.is("lock(1)", x.lock(1), EscrowedVersions.LOCKED);
        due.is("lock(2)", x.lock(2), EscrowedVersions.STATE);
        due.is("nothing changed", before.equals(Prepared.state(x)), true);
        Prepared.fillLog(x, 3, 80);
        before = Prepared.state(x);
        due.is("BAD before FULL", x.lock(4), EscrowedVersions.BAD);
        due.is("GONE before FULL", x.lock(0), EscrowedVersions.GONE);
        due.is("LOCKED before FULL", x.lock(1), EscrowedVersions.LOCKED);
        due.is("STATE before FULL", x.lock(2), EscrowedVersions.STATE);
        due.is("FULL", x.lock(3), EscrowedVersions.FULL);
        due.is("nothing changed", before.equals(Prepared.state(x)), true);

        EscrowedVersions nearly = Prepared.withVersions(1);
        Prepared.fillLog(nearly, 0, 79);
        due.is("lock(0) with room for one entry", nearly.lock(0), 1);
        due.is("entries()", nearly.entries(), 80);
    }
}
