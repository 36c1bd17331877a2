/**
 * The boundary cases of promises 5, 6, 17 and 18 (rotate, destroy, version, versions), a method for each
 * sentence.
 */
public final class VersionEdgesTest {
    public static void main(String[] args) {
        Due due = new Due("VersionEdgesTest");
        newVersion(due);
        secretOfFourCoins(due);
        theOneThatWasActive(due);
        detailOfRotate(due);
        eightVersions(due);
        noRoomForRotate(due);
        tooFewCoins(due);
        destroyed(due);
        stateItWasIn(due);
        destroyNone(due);
        destroyTwice(due);
        noRoomForDestroy(due);
        stateNumbers(due);
        lockNumbers(due);
        escrowNumbers(due);
        givenNumbers(due);
        noSuchVersion(due);
        noSuchWhat(due);
        numberOfVersions(due);
        due.end();
    }

    private static void newVersion(Due due) {
        due.sentence("A new version, ACTIVE, not LOCKED, without escrow");
        EscrowedVersions x = Prepared.withVersions(1);
        x.split(0, 1, 8);
        x.lock(0);
        Prepared.someCoins(x, 4);
        due.is("rotate() over a LOCKED one", x.rotate(), 1);
        int[] want = {1, 0, 0, 0};
        for (int what = 0; what < 4; what++) {
            due.is("version(1, " + what + ")", x.version(1, what), want[what]);
        }
        due.is("wrap(1)", x.wrap(1), 1);
        due.is("lock(1)", x.lock(1), EscrowedVersions.STATE);
    }

    private static void secretOfFourCoins(Due due) {
        due.sentence("with the int of four coins that are taken as its secret");
        EscrowedVersions x = new EscrowedVersions();
        Prepared.coins(x, 255, 0, 0, 1, 9);
        x.rotate();
        due.is("coins()", x.coins(), 1);
        x.split(0, 1, 1);
        due.is("the secret", x.share(1), 0xFF000001);
    }

    private static void theOneThatWasActive(Due due) {
        due.sentence("the one that was ACTIVE is RETIRED");
        EscrowedVersions x = Prepared.withVersions(1);
        x.split(0, 1, 2);
        x.lock(0);
        Prepared.someCoins(x, 8);
        x.rotate();
        due.is("its state", x.version(0, 0), 2);
        due.is("its lock stays", x.version(0, 1), 1);
        due.is("its escrow stays", x.version(0, 2), 18);
        x.destroy(1);
        x.rotate();
        due.is("one that was DESTROYED", x.version(1, 0), 3);
        due.is("one that was RETIRED", x.version(0, 0), 2);
    }

    private static void detailOfRotate(Due due) {
        due.sentence("kind 1, this version, detail 1 + the version that was ACTIVE, or 0");
        EscrowedVersions x = Prepared.withVersions(3);
        due.is("none was", x.log(0, 2), 0);
        due.is("0 was", x.log(1, 2), 1);
        due.is("1 was", x.log(2, 2), 2);
        Prepared.someCoins(x, 20);
        x.destroy(0);
        x.rotate();
        due.is("2 was", x.log(4, 2), 3);
        x.destroy(3);
        x.rotate();
        due.is("none was, with RETIRED ones", x.log(6, 2), 0);
        x.rotate();
        x.rotate();
        x.rotate();
        int[] last = {1, 7, 7};
        for (int what = 0; what < 3; what++) {
            due.is("log(9, " + what + ")", x.log(9, what), last[what]);
        }
    }

    private static void eightVersions(Due due) {
        due.sentence("rotate: FULL (There are eight versions)");
        EscrowedVersions x = Prepared.withVersions(7);
        Prepared.someCoins(x, 8);
        due.is("the eighth", x.rotate(), 7);
        String before = Prepared.state(x);
        due.is("the ninth", x.rotate(), EscrowedVersions.FULL);
        due.unchanged(before, x);
    }

    private static void noRoomForRotate(Due due) {
        due.sentence("rotate: FULL (no room in the log for what the call would write there)");
        EscrowedVersions x = Prepared.withVersions(1);
        Prepared.someCoins(x, 8);
        Prepared.fillLog(x, 0, 79);
        due.is("rotate() with 79 entries", x.rotate(), 1);
        String before = Prepared.state(x);
        due.is("rotate() with 80 entries", x.rotate(), EscrowedVersions.FULL);
        due.unchanged(before, x);
    }

    private static void tooFewCoins(Due due) {
        due.sentence("rotate: COINS");
        EscrowedVersions x = Prepared.withVersions(1);
        for (int k = 0; k < 4; k++) {
            due.is("rotate() with " + k, x.rotate(), EscrowedVersions.COINS);
            due.is("coins()", x.coins(), k);
            due.is("state", x.version(0, 0), 1);
            x.coin(k);
        }
        due.is("rotate() with 4", x.rotate(), 1);
        due.is("coins()", x.coins(), 0);
    }

    private static void destroyed(Due due) {
        due.sentence("it has no secret, no escrow and no given shares any more, and is not LOCKED");
        EscrowedVersions x = Prepared.withVersions(1);
        Prepared.someCoins(x, 4);
        x.wrap(3);
        x.split(0, 2, 8);
        x.lock(0);
        x.give(0, 8, x.share(8));
        x.destroy(0);
        int[] want = {3, 0, 0, 0};
        for (int what = 0; what < 4; what++) {
            due.is("version(0, " + what + ")", x.version(0, what), want[what]);
        }
        due.is("give of another share", x.give(0, 1, x.share(1)), EscrowedVersions.GONE);
        due.is("wrap(4)", x.wrap(4), EscrowedVersions.STATE);
        due.is("unwrap()", x.unwrap(), EscrowedVersions.GONE);
    }

    private static void stateItWasIn(Due due) {
        due.sentence("Answers the state that it was in. In the log: kind 2, v, that state.");
        EscrowedVersions x = Prepared.withVersions(3);
        x.split(1, 1, 1);
        x.lock(1);
        due.is("destroy(2), ACTIVE", x.destroy(2), 1);
        due.is("destroy(1), RETIRED and LOCKED", x.destroy(1), 2);
        due.is("destroy(0), RETIRED", x.destroy(0), 2);
        int[][] want = {{2, 2, 1}, {2, 1, 2}, {2, 0, 2}};
        for (int k = 0; k < 3; k++) {
            for (int what = 0; what < 3; what++) {
                due.is("log(" + (5 + k) + ", " + what + ")", x.log(5 + k, what), want[k][what]);
            }
        }
    }

    private static void destroyNone(Due due) {
        due.sentence("destroy: BAD");
        due.is("destroy(0) at first", new EscrowedVersions().destroy(0), EscrowedVersions.BAD);
        EscrowedVersions x = Prepared.withVersions(8);
        String before = Prepared.state(x);
        int[] none = {-1, 8, 9, Integer.MIN_VALUE, Integer.MAX_VALUE};
        for (int v : none) {
            due.is("destroy(" + v + ")", x.destroy(v), EscrowedVersions.BAD);
        }
        due.unchanged(before, x);
        due.is("destroy(7)", x.destroy(7), 1);
        due.is("destroy(0)", x.destroy(0), 2);
        EscrowedVersions two = Prepared.withVersions(2);
        due.is("destroy(2) of two", two.destroy(2), EscrowedVersions.BAD);
    }

    private static void destroyTwice(Due due) {
        due.sentence("destroy: GONE");
        EscrowedVersions x = Prepared.withVersions(2);
        x.destroy(0);
        x.destroy(1);
        String before = Prepared.state(x);
        due.is("destroy(0), which was RETIRED", x.destroy(0), EscrowedVersions.GONE);
        due.is("destroy(1), which was ACTIVE", x.destroy(1), EscrowedVersions.GONE);
        due.unchanged(before, x);
    }

    private static void noRoomForDestroy(Due due) {
        due.sentence("destroy: FULL");
        EscrowedVersions x = Prepared.withVersions(2);
        Prepared.fillLog(x, 0, 79);
        due.is("destroy(0) with 79 entries", x.destroy(0), 2);
        String before = Prepared.state(x);
        due.is("destroy(1) with 80 entries", x.destroy(1), EscrowedVersions.FULL);
        due.unchanged(before, x);
        due.is("wrap(1), 1 being ACTIVE still", x.wrap(1), 1);
    }

    private static void stateNumbers(Due due) {
        due.sentence("what = 0 its state");
        EscrowedVersions x = Prepared.withVersions(8);
        x.destroy(0);
        due.is("version(0, 0)", x.version(0, 0), 3);
        due.is("version(6, 0)", x.version(6, 0), 2);
        due.is("version(7, 0)", x.version(7, 0), 1);
    }

    private static void lockNumbers(Due due) {
        due.sentence("1 whether it is LOCKED (1 or 0)");
        EscrowedVersions x = Prepared.withVersions(2);
        x.split(0, 1, 1);
        due.is("before", x.version(0, 1), 0);
        x.lock(0);
        due.is("behind lock(0)", x.version(0, 1), 1);
        due.is("the other", x.version(1, 1), 0);
        x.give(0, 1, x.share(1));
        due.is("behind the opening", x.version(0, 1), 0);
    }

    private static void escrowNumbers(Due due) {
        due.sentence("2 its escrow as 16 * t + n (0 without)");
        EscrowedVersions x = Prepared.withVersions(1);
        Prepared.someCoins(x, 28);
        due.is("without", x.version(0, 2), 0);
        x.split(0, 1, 1);
        due.is("by 1 and 1", x.version(0, 2), 17);
        x.split(0, 1, 8);
        due.is("by 1 and 8", x.version(0, 2), 24);
        x.split(0, 8, 8);
        due.is("by 8 and 8", x.version(0, 2), 136);
        x.lock(0);
        due.is("LOCKED", x.version(0, 2), 136);
        x.destroy(0);
        due.is("DESTROYED", x.version(0, 2), 0);
    }

    private static void givenNumbers(Due due) {
        due.sentence("3 the sum of 2^i over the shares i that are given");
        EscrowedVersions x = Prepared.withVersions(1);
        Prepared.someCoins(x, 28);
        x.split(0, 8, 8);
        due.is("not LOCKED", x.version(0, 3), 0);
        x.lock(0);
        due.is("none given", x.version(0, 3), 0);
        x.give(0, 1, x.share(1));
        due.is("share 1", x.version(0, 3), 2);
        x.give(0, 8, x.share(8));
        due.is("shares 1 and 8", x.version(0, 3), 258);
        for (int i = 7; i >= 3; i--) {
            x.give(0, i, x.share(i));
        }
        due.is("all but 2", x.version(0, 3), 506);
        x.give(0, 2, x.share(2));
        due.is("all", x.version(0, 3), 0);
    }

    private static void noSuchVersion(Due due) {
        due.sentence("version: BAD when there is no version v");
        for (int many = 0; many <= 8; many += 4) {
            EscrowedVersions x = Prepared.withVersions(many);
            int[] none = {-1, many, 8, Integer.MIN_VALUE, Integer.MAX_VALUE};
            for (int v : none) {
                for (int what = 0; what < 4; what++) {
                    due.is("version(" + v + ", " + what + ") of " + many, x.version(v, what), EscrowedVersions.BAD);
                }
            }
        }
    }

    private static void noSuchWhat(Due due) {
        due.sentence("version: BAD .. when what is not 0 .. 3");
        EscrowedVersions x = Prepared.withVersions(1);
        int[] wrong = {-1, 4, 5, Integer.MIN_VALUE, Integer.MAX_VALUE};
        for (int what : wrong) {
            due.is("version(0, " + what + ")", x.version(0, what), EscrowedVersions.BAD);
            due.is("version(1, " + what + ")", x.version(1, what), EscrowedVersions.BAD);
        }
        due.is("version(0, 0)", x.version(0, 0), 1);
        due.is("version(0, 3)", x.version(0, 3), 0);
    }

    private static void numberOfVersions(Due due) {
        due.sentence("The number of versions.");
        EscrowedVersions x = new EscrowedVersions();
        Prepared.someCoins(x, 36);
        for (int v = 0; v < 8; v++) {
            due.is("versions()", x.versions(), v);
            x.rotate();
        }
        due.is("versions()", x.versions(), 8);
        x.rotate();
        due.is("versions() behind the ninth, refused", x.versions(), 8);
        x.destroy(7);
        due.is("versions(), one being DESTROYED", x.versions(), 8);
    }
}
