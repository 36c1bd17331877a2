/** Promise 6: destroy. */
public final class DestroyTest {
    public static void main(String[] args) {
        Due due = new Due("DestroyTest");
        activeAndRetired(due);
        lockedOne(due);
        refusals(due);
        due.end();
    }

    private static void activeAndRetired(Due due) {
        EscrowedVersions x = Prepared.withVersions(3);
        x.wrap(77);
        due.is("destroy(0)", x.destroy(0), 2);
        due.is("state of 0", x.version(0, 0), 3);
        due.is("the log's kind", x.log(3, 0), 2);
        due.is("the log's version", x.log(3, 1), 0);
        due.is("the log's detail", x.log(3, 2), 2);
        due.is("wrap(1), 2 being ACTIVE", x.wrap(1), 2);
        due.is("destroy(2)", x.destroy(2), 1);
        due.is("the log's version", x.log(4, 1), 2);
        due.is("the log's detail", x.log(4, 2), 1);
        due.is("state of 1", x.version(1, 0), 2);
        due.is("wrap(1), none being ACTIVE", x.wrap(1), EscrowedVersions.STATE);
        due.is("unwrap()", x.unwrap(), EscrowedVersions.GONE);
        due.is("versions()", x.versions(), 3);
    }

    private static void lockedOne(Due due) {
        EscrowedVersions x = Prepared.withVersions(1);
        Prepared.someCoins(x, 8);
        x.split(0, 3, 5);
        x.lock(0);
        x.give(0, 2, x.share(2));
        due.is("given before", x.version(0, 3), 4);
        int second = x.share(2);
        due.is("destroy(0) of a LOCKED one", x.destroy(0), 1);
        due.is("state", x.version(0, 0), 3);
        due.is("lock", x.version(0, 1), 0);
        due.is("escrow", x.version(0, 2), 0);
        due.is("given", x.version(0, 3), 0);
        due.is("the latest splitting's share stays", x.share(2), second);
        due.is("give", x.give(0, 2, second), EscrowedVersions.GONE);
        due.is("lock", x.lock(0), EscrowedVersions.GONE);
        due.is("split", x.split(0, 1, 1), EscrowedVersions.GONE);
    }

    private static void refusals(Due due) {
        EscrowedVersions x = Prepared.withVersions(2);
        x.split(0, 1, 1);
        x.destroy(0);
        String before = Prepared.state(x);
        int[] none = {-1, 2, 8, Integer.MIN_VALUE, Integer.MAX_VALUE};
        for (int v : none) {
            due.is("destroy(" + v + ")", x.destroy(v), EscrowedVersions.BAD);
        }
        due.is("destroy(0) again", x.destroy(0), EscrowedVersions.GONE);
        due.is("nothing changed", before.equals(Prepared.state(x)), true);
        Prepared.fillLog(x, 1, 80);
        before = Prepared.state(x);
        due.is("destroy(2) with a full log", x.destroy(2), EscrowedVersions.BAD);
        due.is("destroy(0) with a full log", x.destroy(0), EscrowedVersions.GONE);
        due.is("destroy(1) with a full log", x.destroy(1), EscrowedVersions.FULL);
        due.is("nothing changed", before.equals(Prepared.state(x)), true);
        due.is("still ACTIVE", x.wrap(3), 1);

        EscrowedVersions nearly = Prepared.withVersions(1);
        Prepared.fillLog(nearly, 0, 79);
        due.is("destroy(0) with room for one entry", nearly.destroy(0), 1);
        due.is("entries()", nearly.entries(), 80);
    }
}
