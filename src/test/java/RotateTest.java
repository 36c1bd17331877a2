/** Promises 5 and 18: rotate, versions. */
public final class RotateTest {
    public static void main(String[] args) {
        Due due = new Due("RotateTest");
        turnsOver(due);
        behindDestroyed(due);
        keepsLock(due);
        refusals(due);
        due.end();
    }

    private static void turnsOver(Due due) {
        EscrowedVersions x = new EscrowedVersions();
        for (int v = 0; v < 8; v++) {
            Prepared.coins(x, 200 + v, 1, 2, 255);
            due.is("rotate()", x.rotate(), v);
            due.is("versions()", x.versions(), v + 1);
            due.is("coins()", x.coins(), 0);
            due.is("state of the new one", x.version(v, 0), 1);
            due.is("lock of the new one", x.version(v, 1), 0);
            due.is("escrow of the new one", x.version(v, 2), 0);
            due.is("given of the new one", x.version(v, 3), 0);
            due.is("kind", x.log(v, 0), 1);
            due.is("version in the log", x.log(v, 1), v);
            due.is("detail", x.log(v, 2), v); // 1 + the one before it, and 0 for the first
            for (int old = 0; old < v; old++) {
                due.is("state of an old one", x.version(old, 0), 2);
            }
        }
        for (int v = 0; v < 8; v++) {
            x.split(v, 1, 1);
            due.is("secret of " + v, x.share(1), 200 + v << 24 | 0x0102FF);
        }
    }

    private static void behindDestroyed(Due due) {
        EscrowedVersions x = Prepared.withVersions(2);
        x.destroy(1);
        Prepared.someCoins(x, 4);
        due.is("rotate() with none ACTIVE", x.rotate(), 2);
        due.is("detail", x.log(3, 2), 0);
        due.is("state of 0", x.version(0, 0), 2);
        due.is("state of 1", x.version(1, 0), 3);
        due.is("state of 2", x.version(2, 0), 1);
    }

    private static void keepsLock(Due due) {
        EscrowedVersions x = Prepared.withVersions(1);
        x.split(0, 1, 2);
        x.lock(0);
        Prepared.someCoins(x, 4);
        due.is("rotate() over a LOCKED one", x.rotate(), 1);
        due.is("state of 0", x.version(0, 0), 2);
        due.is("lock of 0", x.version(0, 1), 1);
        due.is("escrow of 0", x.version(0, 2), 18);
        due.is("lock of 1", x.version(1, 1), 0);
    }

    private static void refusals(Due due) {
        EscrowedVersions few = Prepared.withVersions(1);
        for (int k = 0; k < 4; k++) {
            due.is("rotate() with " + k + " coins", few.rotate(), EscrowedVersions.COINS);
            due.is("coins()", few.coins(), k);
            few.coin(k);
        }
        due.is("state behind refusals", few.version(0, 0), 1);
        due.is("entries() behind refusals", few.entries(), 1);
        due.is("rotate() with 4 coins", few.rotate(), 1);

        EscrowedVersions eight = Prepared.withVersions(8);
        due.is("the ninth without coins", eight.rotate(), EscrowedVersions.FULL);
        Prepared.someCoins(eight, 4);
        eight.destroy(3);
        String before = Prepared.state(eight);
        due.is("the ninth, one being destroyed", eight.rotate(), EscrowedVersions.FULL);
        due.is("nothing changed", before.equals(Prepared.state(eight)), true);
        due.is("versions()", eight.versions(), 8);

        EscrowedVersions log = Prepared.withVersions(1);
        Prepared.fillLog(log, 0, 80);
        due.is("rotate() with a full log, without coins", log.rotate(), EscrowedVersions.FULL);
        Prepared.someCoins(log, 4);
        String full = Prepared.state(log);
        due.is("rotate() with a full log", log.rotate(), EscrowedVersions.FULL);
        due.is("nothing changed", full.equals(Prepared.state(log)), true);

        EscrowedVersions nearly = Prepared.withVersions(1);
        Prepared.fillLog(nearly, 0, 79);
        Prepared.someCoins(nearly, 4);
        due.is("rotate() with room for one entry", nearly.rotate(), 1);
        due.is("entries()", nearly.entries(), 80);
    }
}
