/** The boundary cases of promises 7 to 9 (split, share, lock), a method for each sentence. */
public final class EscrowEdgesTest {
    private static final int[] NO_VERSIONS = {-1, 4, 8, Integer.MIN_VALUE, Integer.MAX_VALUE};

    public static void main(String[] args) {
        Due due = new Due("EscrowEdgesTest");
        inPlaceOfTheOldOne(due);
        answersN(due);
        entryOfSplit(due);
        splitNone(due);
        thresholdAtLeastOne(due);
        thresholdAtMostN(due);
        sharesAtMostEight(due);
        splitGone(due);
        splitLocked(due);
        noRoomForSplit(due);
        tooFewCoins(due);
        latestSplitting(due);
        whateverBecameOfTheVersion(due);
        beforeTheFirst(due);
        noSuchShare(due);
        locked(due);
        answersTheThreshold(due);
        lockNone(due);
        lockGone(due);
        lockTwice(due);
        lockWithoutEscrow(due);
        noRoomForLock(due);
        due.end();
    }

    private static void inPlaceOfTheOldOne(Due due) {
        due.sentence("it has this escrow now, in place of the one that it had");
        EscrowedVersions x = Prepared.withVersions(1);
        Prepared.someCoins(x, 40);
        x.split(0, 3, 8);
        int oldFirst = x.share(1);
        int oldLast = x.share(8);
        x.split(0, 2, 7);
        due.is("escrow", x.version(0, 2), 39);
        due.is("lock(0)", x.lock(0), 2);
        due.is("share 8, which only the old one had", x.give(0, 8, oldLast), EscrowedVersions.FORGED);
        due.is("share 1 of the old one", x.give(0, 1, oldFirst), EscrowedVersions.FORGED);
        due.is("share 1", x.give(0, 1, x.share(1)), 1);
        due.is("share 7", x.give(0, 7, x.share(7)), 0);
    }

    private static void answersN(Due due) {
        due.sentence("split: Answers n.");
        EscrowedVersions x = Prepared.withVersions(1);
        Prepared.someCoins(x, 28);
        due.is("split(0, 1, 1)", x.split(0, 1, 1), 1);
        due.is("split(0, 1, 8)", x.split(0, 1, 8), 8);
        due.is("split(0, 8, 8)", x.split(0, 8, 8), 8);
    }

    private static void entryOfSplit(Due due) {
        due.sentence("In the log: kind 3, v, 16 * t + n.");
        EscrowedVersions x = Prepared.withVersions(8);
        Prepared.someCoins(x, 28);
        x.split(0, 1, 1);
        x.split(7, 8, 8);
        int[][] want = {{3, 0, 17}, {3, 7, 136}};
        for (int k = 0; k < 2; k++) {
            for (int what = 0; what < 3; what++) {
                due.is("log(" + (8 + k) + ", " + what + ")", x.log(8 + k, what), want[k][what]);
            }
        }
    }

    private static void splitNone(Due due) {
        due.sentence("split: BAD when there is no version v");
        due.is("split(0, 1, 1) at first", new EscrowedVersions().split(0, 1, 1), EscrowedVersions.BAD);
        EscrowedVersions x = Prepared.withVersions(4);
        for (int v : NO_VERSIONS) {
            due.is("split(" + v + ", 1, 1)", x.split(v, 1, 1), EscrowedVersions.BAD);
        }
        due.is("split(0, 1, 1)", x.split(0, 1, 1), 1);
        due.is("split(3, 1, 1)", x.split(3, 1, 1), 1);
        EscrowedVersions eight = Prepared.withVersions(8);
        due.is("split(8, 1, 1) of eight", eight.split(8, 1, 1), EscrowedVersions.BAD);
        due.is("split(7, 1, 1) of eight", eight.split(7, 1, 1), 1);
    }

    private static void thresholdAtLeastOne(Due due) {
        due.sentence("split: BAD when .. not 1 <= t");
        EscrowedVersions x = Prepared.withVersions(1);
        Prepared.someCoins(x, 64);
        int[] low = {0, -1, -8, Integer.MIN_VALUE};
        for (int t : low) {
            due.is("split(0, " + t + ", 8)", x.split(0, t, 8), EscrowedVersions.BAD);
            due.is("split(0, " + t + ", " + t + ")", x.split(0, t, t), EscrowedVersions.BAD);
        }
        due.is("split(0, 1, 8)", x.split(0, 1, 8), 8);
    }

    private static void thresholdAtMostN(Due due) {
        due.sentence("split: BAD when .. not t <= n");
        for (int n = 1; n <= 8; n++) {
            EscrowedVersions x = Prepared.withVersions(1);
            Prepared.someCoins(x, 64);
            due.is("t = n + 1 = " + (n + 1), x.split(0, n + 1, n), EscrowedVersions.BAD);
            due.is("t the greatest int", x.split(0, Integer.MAX_VALUE, n), EscrowedVersions.BAD);
            due.is("coins()", x.coins(), 64);
            due.is("t = n = " + n, x.split(0, n, n), n);
        }
        EscrowedVersions x = Prepared.withVersions(1);
        due.is("split(0, 1, 0)", x.split(0, 1, 0), EscrowedVersions.BAD);
        due.is("split(0, 1, -1)", x.split(0, 1, -1), EscrowedVersions.BAD);
        due.is("split(0, 1, least)", x.split(0, 1, Integer.MIN_VALUE), EscrowedVersions.BAD);
    }

    private static void sharesAtMostEight(Due due) {
        due.sentence("split: BAD when .. not n <= 8");
        EscrowedVersions x = Prepared.withVersions(1);
        Prepared.someCoins(x, 64);
        int[] high = {9, 10, 16, Integer.MAX_VALUE};
        for (int n : high) {
            due.is("split(0, 1, " + n + ")", x.split(0, 1, n), EscrowedVersions.BAD);
            due.is("split(0, 8, " + n + ")", x.split(0, 8, n), EscrowedVersions.BAD);
            due.is("split(0, " + n + ", " + n + ")", x.split(0, n, n), EscrowedVersions.BAD);
        }
        due.is("split(0, 8, 8)", x.split(0, 8, 8), 8);
    }

    private static void splitGone(Due due) {
        due.sentence("split: GONE");
        EscrowedVersions x = Prepared.withVersions(2);
        x.split(0, 1, 1);
        x.destroy(0);
        x.destroy(1);
        String before = Prepared.state(x);
        due.is("split(0, 1, 1)", x.split(0, 1, 1), EscrowedVersions.GONE);
        due.is("split(1, 1, 1)", x.split(1, 1, 1), EscrowedVersions.GONE);
        due.unchanged(before, x);
    }

    private static void splitLocked(Due due) {
        due.sentence("split: LOCKED");
        EscrowedVersions x = Prepared.withVersions(1);
        x.split(0, 1, 2);
        x.lock(0);
        String before = Prepared.state(x);
        due.is("split(0, 1, 1)", x.split(0, 1, 1), EscrowedVersions.LOCKED);
        due.unchanged(before, x);
        x.give(0, 2, x.share(2));
        due.is("split(0, 1, 1) behind the opening", x.split(0, 1, 1), 1);
    }

    private static void noRoomForSplit(Due due) {
        due.sentence("split: FULL");
        EscrowedVersions x = Prepared.withVersions(1);
        Prepared.someCoins(x, 8);
        Prepared.fillLog(x, 0, 79);
        due.is("split(0, 2, 2) with 79 entries", x.split(0, 2, 2), 2);
        String before = Prepared.state(x);
        due.is("split(0, 2, 3) with 80 entries", x.split(0, 2, 3), EscrowedVersions.FULL);
        due.unchanged(before, x);
    }

    private static void tooFewCoins(Due due) {
        due.sentence("split: COINS");
        for (int t = 2; t <= 8; t++) {
            EscrowedVersions x = Prepared.withVersions(1);
            Prepared.someCoins(x, 4 * (t - 1) - 1);
            String before = Prepared.state(x);
            due.is("t = " + t + " with a coin too few", x.split(0, t, 8), EscrowedVersions.COINS);
            due.unchanged(before, x);
            x.coin(1);
            due.is("t = " + t + " with just enough", x.split(0, t, 8), 8);
            due.is("coins()", x.coins(), 0);
        }
        due.is("t = 1 without coins", Prepared.withVersions(1).split(0, 1, 8), 8);
        EscrowedVersions none = Prepared.withVersions(1);
        due.is("t = 2 without coins", none.split(0, 2, 8), EscrowedVersions.COINS);
    }

    private static void latestSplitting(Due due) {
        due.sentence("Share i of the latest splitting (of any version)");
        EscrowedVersions x = Prepared.withVersions(2);
        x.split(1, 1, 8);
        due.is("share(8) of 1", x.share(8), Prepared.secret(1));
        x.split(0, 1, 1);
        due.is("share(1) of 0", x.share(1), Prepared.secret(0));
        due.is("a refused splitting", x.split(1, 2, 2), EscrowedVersions.COINS);
        due.is("share(1) stays", x.share(1), Prepared.secret(0));
    }

    /** 0 is named for two cases alone, so no call but another splitting changes what share answers. */
    private static void whateverBecameOfTheVersion(Due due) {
        due.sentence("Share i of the latest splitting .., 0 before the first one and when it has no share i.");
        EscrowedVersions x = Prepared.withVersions(2);
        Prepared.someCoins(x, 8);
        x.split(1, 2, 3);
        int[] shares = {0, x.share(1), x.share(2), x.share(3), 0};
        x.lock(1);
        stillAnswers(due, "LOCKED", x, shares);
        x.give(1, 3, shares[3]);
        stillAnswers(due, "one share given", x, shares);
        x.give(1, 1, shares[1]);
        stillAnswers(due, "opened", x, shares);
        x.rotate();
        stillAnswers(due, "RETIRED", x, shares);
        x.destroy(0);
        stillAnswers(due, "another DESTROYED", x, shares);
        x.destroy(1);
        stillAnswers(due, "DESTROYED", x, shares);
        x.split(2, 1, 1);
        due.is("share(1) of another splitting", x.share(1) == shares[1], false);
        due.is("share(2) of another splitting", x.share(2), 0);
        due.is("share(3) of another splitting", x.share(3), 0);
    }

    private static void stillAnswers(Due due, String when, EscrowedVersions x, int[] shares) {
        for (int i = 0; i < shares.length; i++) {
            due.is("share(" + i + "), its version being " + when, x.share(i), shares[i]);
        }
    }

    private static void beforeTheFirst(Due due) {
        due.sentence("0 before the first one");
        EscrowedVersions x = new EscrowedVersions();
        due.is("share(1) at first", x.share(1), 0);
        Prepared.someCoins(x, 4);
        x.rotate();
        due.is("a refused splitting", x.split(0, 2, 2), EscrowedVersions.COINS);
        for (int i = 0; i <= 9; i++) {
            due.is("share(" + i + ")", x.share(i), 0);
        }
    }

    private static void noSuchShare(Due due) {
        due.sentence("0 .. when it has no share i");
        EscrowedVersions x = Prepared.withVersions(1);
        for (int n = 8; n >= 1; n--) {
            x.split(0, 1, n);
            due.is("share(1) of " + n, x.share(1), Prepared.secret(0));
            due.is("share(n) of " + n, x.share(n), Prepared.secret(0));
            int[] none = {0, -1, n + 1, 9, Integer.MIN_VALUE, Integer.MAX_VALUE};
            for (int i : none) {
                due.is("share(" + i + ") of " + n, x.share(i), 0);
            }
        }
    }

    private static void locked(Due due) {
        due.sentence("Version v is LOCKED, its secret forgotten, no shares given.");
        EscrowedVersions x = Prepared.withVersions(1);
        Prepared.someCoins(x, 4);
        x.wrap(1);
        x.split(0, 2, 2);
        x.lock(0);
        x.give(0, 1, x.share(1));
        x.give(0, 2, x.share(2));
        x.lock(0); // the second time, with shares given before
        due.is("lock", x.version(0, 1), 1);
        due.is("given", x.version(0, 3), 0);
        due.is("unwrap()", x.unwrap(), EscrowedVersions.LOCKED);
        due.is("share 2, one of two again", x.give(0, 2, x.share(2)), 1);
    }

    private static void answersTheThreshold(Due due) {
        due.sentence("Answers the threshold of its escrow. In the log: kind 4, v, 0.");
        for (int t = 1; t <= 8; t++) {
            EscrowedVersions x = Prepared.withVersions(8);
            Prepared.someCoins(x, 28);
            x.split(t - 1, t, 8);
            due.is("lock by " + t, x.lock(t - 1), t);
            due.is("log(9, 0)", x.log(9, 0), 4);
            due.is("log(9, 1)", x.log(9, 1), t - 1);
            due.is("log(9, 2)", x.log(9, 2), 0);
        }
    }

    private static void lockNone(Due due) {
        due.sentence("lock: BAD");
        due.is("lock(0) at first", new EscrowedVersions().lock(0), EscrowedVersions.BAD);
        EscrowedVersions x = Prepared.withVersions(4);
        x.split(0, 1, 1);
        x.split(3, 1, 1);
        for (int v : NO_VERSIONS) {
            due.is("lock(" + v + ")", x.lock(v), EscrowedVersions.BAD);
        }
        due.is("lock(0)", x.lock(0), 1);
        due.is("lock(3)", x.lock(3), 1);
        EscrowedVersions eight = Prepared.withVersions(8);
        due.is("lock(8) of eight", eight.lock(8), EscrowedVersions.BAD);
    }

    private static void lockGone(Due due) {
        due.sentence("lock: GONE");
        EscrowedVersions x = Prepared.withVersions(1);
        x.split(0, 1, 1);
        x.destroy(0);
        String before = Prepared.state(x);
        due.is("lock(0)", x.lock(0), EscrowedVersions.GONE);
        due.unchanged(before, x);
    }

    private static void lockTwice(Due due) {
        due.sentence("lock: LOCKED");
        EscrowedVersions x = Prepared.withVersions(1);
        Prepared.someCoins(x, 4);
        x.split(0, 2, 2);
        x.lock(0);
        x.give(0, 1, x.share(1));
        String before = Prepared.state(x);
        due.is("lock(0), a share being given", x.lock(0), EscrowedVersions.LOCKED);
        due.unchanged(before, x);
        due.is("the last share", x.give(0, 2, x.share(2)), 0);
    }

    private static void lockWithoutEscrow(Due due) {
        due.sentence("lock: STATE when it has no escrow");
        EscrowedVersions x = Prepared.withVersions(2);
        x.split(1, 1, 1);
        String before = Prepared.state(x);
        due.is("lock(0)", x.lock(0), EscrowedVersions.STATE);
        due.unchanged(before, x);
        due.is("a refused splitting", x.split(0, 2, 2), EscrowedVersions.COINS);
        due.is("lock(0) behind it", x.lock(0), EscrowedVersions.STATE);
    }

    private static void noRoomForLock(Due due) {
        due.sentence("lock: FULL");
        EscrowedVersions x = Prepared.withVersions(2);
        x.split(1, 1, 1);
        Prepared.fillLog(x, 0, 79);
        due.is("lock(0) with 79 entries", x.lock(0), 1);
        x.wrap(5);
        String before = Prepared.state(x);
        due.is("lock(1) with 80 entries", x.lock(1), EscrowedVersions.FULL);
        due.unchanged(before, x);
        due.is("unwrap() under 1", x.unwrap(), 5);
    }
}
