/** Promise 1: no coins, no versions, an empty envelope, an empty log; and what that means for every call. */
public final class NewObjectTest {
    public static void main(String[] args) {
        Due due = new Due("NewObjectTest");
        EscrowedVersions x = new EscrowedVersions();
        due.is("coins()", x.coins(), 0);
        due.is("versions()", x.versions(), 0);
        due.is("length()", x.length(), 0);
        due.is("entries()", x.entries(), 0);
        due.is("byteAt(0)", x.byteAt(0), EscrowedVersions.BAD);
        due.is("share(1)", x.share(1), 0);
        for (int what = 0; what < 4; what++) {
            due.is("version(0, " + what + ")", x.version(0, what), EscrowedVersions.BAD);
            due.is("log(0, " + what + ")", x.log(0, what), 0);
        }
        due.is("rotate()", x.rotate(), EscrowedVersions.COINS);
        due.is("destroy(0)", x.destroy(0), EscrowedVersions.BAD);
        due.is("split(0, 1, 1)", x.split(0, 1, 1), EscrowedVersions.BAD);
        due.is("lock(0)", x.lock(0), EscrowedVersions.BAD);
        due.is("give(0, 1, 0)", x.give(0, 1, 0), EscrowedVersions.BAD);
        due.is("wrap(0)", x.wrap(0), EscrowedVersions.STATE);
        due.is("unwrap()", x.unwrap(), EscrowedVersions.SHAPE);
        twoObjects(due);
        due.end();
    }

    private static void twoObjects(Due due) {
        EscrowedVersions one = Prepared.withVersions(2);
        Prepared.someCoins(one, 8);
        one.split(0, 2, 3);
        one.wrap(5);
        EscrowedVersions other = new EscrowedVersions();
        due.is("other.coins()", other.coins(), 0);
        due.is("other.versions()", other.versions(), 0);
        due.is("other.length()", other.length(), 0);
        due.is("other.entries()", other.entries(), 0);
        due.is("other.share(1)", other.share(1), 0);
    }
}
