/** The boundary cases of promise 10 (give), a method for each sentence. */
public final class GiveEdgesTest {
    public static void main(String[] args) {
        Due due = new Due("GiveEdgesTest");
        stillNeeded(due);
        givenBefore(due);
        entryOfGive(due);
        lastOne(due);
        entryOfTheOpening(due);
        giveNone(due);
        giveGone(due);
        notLocked(due);
        noSuchShare(due);
        otherDigest(due);
        noRoomForOne(due);
        noRoomForTwo(due);
        roomForTheOnlyShare(due);
        givenAgainButForged(due);
        fullButGivenBefore(due);
        due.end();
    }

    /** An object whose version 0 of two is LOCKED by t and n. */
    private static EscrowedVersions locked(int t, int n) {
        EscrowedVersions x = Prepared.withVersions(2);
        Prepared.someCoins(x, 4 * (t - 1));
        x.split(0, t, n);
        x.lock(0);
        return x;
    }

    private static void stillNeeded(Due due) {
        due.sentence("Share i is given for version v; answers how many are still needed then.");
        for (int t = 1; t <= 8; t++) {
            EscrowedVersions x = locked(t, 8);
            for (int k = 1; k <= t; k++) {
                due.is("share " + (9 - k) + " of " + t, x.give(0, 9 - k, x.share(9 - k)), t - k);
            }
            due.is("one too many of " + t, x.give(0, 1, x.share(1)), EscrowedVersions.STATE);
        }
    }

    private static void givenBefore(Due due) {
        due.sentence("When share i was given before, nothing changes.");
        Twins twins = new Twins(due, 4, 20);
        twins.idle("share 2 again", s -> s.x.give(Scene.LOCKED, 2, s.lockedShares[2]), 2);
        twins.idle("share 2 again, one being needed", s -> s.x.give(Scene.LOCKED, 4, s.lockedShares[4]),
                s -> s.x.give(Scene.LOCKED, 2, s.lockedShares[2]), 1);
        EscrowedVersions x = locked(8, 8);
        for (int i = 1; i <= 7; i++) {
            x.give(0, i, x.share(i));
        }
        String before = Prepared.state(x);
        for (int i = 1; i <= 7; i++) {
            due.is("share " + i + " of 8 again", x.give(0, i, x.share(i)), 1);
        }
        due.unchanged(before, x);
        due.is("share 8 of 8", x.give(0, 8, x.share(8)), 0);
    }

    private static void entryOfGive(Due due) {
        due.sentence("In the log: kind 5, v, i.");
        EscrowedVersions x = locked(3, 8);
        x.give(0, 8, x.share(8));
        x.give(0, 1, x.share(1));
        int[][] want = {{5, 0, 8}, {5, 0, 1}};
        for (int k = 0; k < 2; k++) {
            for (int what = 0; what < 3; what++) {
                due.is("log(" + (4 + k) + ", " + what + ")", x.log(4 + k, what), want[k][what]);
            }
        }
        due.is("entries()", x.entries(), 6);
    }

    private static void lastOne(Due due) {
        due.sentence("With the last one .. v is LOCKED no more (no shares are given then)");
        EscrowedVersions x = locked(2, 8);
        x.give(0, 8, x.share(8));
        due.is("lock before", x.version(0, 1), 1);
        x.give(0, 7, x.share(7));
        due.is("state", x.version(0, 0), 2);
        due.is("lock", x.version(0, 1), 0);
        due.is("escrow", x.version(0, 2), 40);
        due.is("given", x.version(0, 3), 0);
        x.split(0, 1, 1);
        due.is("the secret", x.share(1), Prepared.secret(0));
    }

    private static void entryOfTheOpening(Due due) {
        due.sentence("another entry behind it: kind 6, v, the threshold");
        for (int t = 1; t <= 8; t++) {
            EscrowedVersions x = locked(t, 8);
            for (int i = 1; i <= t; i++) {
                x.give(0, i, x.share(i));
            }
            int last = 4 + t;
            int[][] want = {{5, 0, t}, {6, 0, t}};
            for (int k = 0; k < 2; k++) {
                for (int what = 0; what < 3; what++) {
                    due.is("log(" + (last - 1 + k) + ", " + what + ")", x.log(last - 1 + k, what), want[k][what]);
                }
            }
            due.is("entries()", x.entries(), last + 1);
        }
    }

    private static void giveNone(Due due) {
        due.sentence("give: BAD when there is no version v");
        due.is("give(0, 1, 0) at first", new EscrowedVersions().give(0, 1, 0), EscrowedVersions.BAD);
        EscrowedVersions x = locked(1, 1);
        String before = Prepared.state(x);
        int[] none = {-1, 2, 8, Integer.MIN_VALUE, Integer.MAX_VALUE};
        for (int v : none) {
            due.is("give(" + v + ", 1, share 1)", x.give(v, 1, x.share(1)), EscrowedVersions.BAD);
        }
        due.unchanged(before, x);
        EscrowedVersions eight = Prepared.withVersions(8);
        due.is("give(8, 1, 0) of eight", eight.give(8, 1, 0), EscrowedVersions.BAD);
        due.is("give(7, 1, 0) of eight", eight.give(7, 1, 0), EscrowedVersions.STATE);
    }

    private static void giveGone(Due due) {
        due.sentence("give: GONE");
        EscrowedVersions x = locked(2, 2);
        x.give(0, 1, x.share(1));
        x.destroy(0);
        String before = Prepared.state(x);
        due.is("share 1", x.give(0, 1, x.share(1)), EscrowedVersions.GONE);
        due.is("share 2", x.give(0, 2, x.share(2)), EscrowedVersions.GONE);
        due.unchanged(before, x);
    }

    private static void notLocked(Due due) {
        due.sentence("give: STATE when it is not LOCKED");
        EscrowedVersions x = Prepared.withVersions(2);
        due.is("without escrow", x.give(0, 1, 0), EscrowedVersions.STATE);
        x.split(0, 1, 1);
        String before = Prepared.state(x);
        due.is("with escrow", x.give(0, 1, x.share(1)), EscrowedVersions.STATE);
        due.unchanged(before, x);
        x.lock(0);
        x.give(0, 1, x.share(1));
        due.is("behind the opening", x.give(0, 1, x.share(1)), EscrowedVersions.STATE);
        due.is("the other", x.give(1, 1, x.share(1)), EscrowedVersions.STATE);
    }

    /** 33 and 257 would be share 1 in a shift or a byte; the right share 1 is given with each number. */
    private static void noSuchShare(Due due) {
        due.sentence("give: FORGED when i is not 1 .. n");
        for (int n = 1; n <= 8; n++) {
            EscrowedVersions x = locked(1, n);
            String before = Prepared.state(x);
            int[] none = {0, -1, n + 1, 9, 32, 33, 257, Integer.MIN_VALUE, Integer.MAX_VALUE};
            for (int i : none) {
                due.is("give(0, " + i + ", share 1) of " + n, x.give(0, i, x.share(1)), EscrowedVersions.FORGED);
                due.is("give(0, " + i + ", 0) of " + n, x.give(0, i, 0), EscrowedVersions.FORGED);
                due.is("an unused digest", x.give(0, i, zeroDigest(i)), EscrowedVersions.FORGED);
            }
            due.unchanged(before, x);
            due.is("share n of " + n, x.give(0, n, x.share(n)), 0);
        }
    }

    /** The share that has the digest 0 by number i: what a row of digests holds where there are none. */
    private static int zeroDigest(int i) {
        int inverse = 668265263; // each step doubles the bits in which it is right, from three on
        for (int k = 0; k < 4; k++) {
            inverse *= 2 - 668265263 * inverse;
        }
        return -374761393 * inverse ^ Model.mix(5, i);
    }

    private static void otherDigest(Due due) {
        due.sentence("give: FORGED when .. the digest of share i is not MIX(MIX(5, i), share)");
        EscrowedVersions x = locked(2, 3);
        int[] shares = {0, x.share(1), x.share(2), x.share(3)};
        String before = Prepared.state(x);
        for (int bit = 0; bit < 32; bit++) {
            due.is("share 1, bit " + bit + " turned", x.give(0, 1, shares[1] ^ 1 << bit), EscrowedVersions.FORGED);
        }
        for (int i = 1; i <= 3; i++) {
            for (int j = 1; j <= 3; j++) {
                if (i != j) {
                    due.is("share " + j + " as " + i, x.give(0, i, shares[j]), EscrowedVersions.FORGED);
                }
            }
            due.is("the secret as " + i, x.give(0, i, Prepared.secret(0)), EscrowedVersions.FORGED);
            due.is("0 as " + i, x.give(0, i, 0), EscrowedVersions.FORGED);
        }
        due.unchanged(before, x);
        due.is("share 1", x.give(0, 1, shares[1]), 1);
        due.is("share 1 given before, a bit turned", x.give(0, 1, shares[1] ^ 1), EscrowedVersions.FORGED);
        due.is("share 3", x.give(0, 3, shares[3]), 0);
    }

    private static void noRoomForOne(Due due) {
        due.sentence("give: FULL (no room in the log for what the call would write there: one entry)");
        Scene scene = new Scene(0, 79);
        EscrowedVersions x = scene.x;
        due.is("the last but one with 79 entries", x.give(Scene.LOCKED, 1, scene.lockedShares[1]), 1);
        String before = Prepared.state(x);
        due.is("the last with 80 entries", x.give(Scene.LOCKED, 5, scene.lockedShares[5]), EscrowedVersions.FULL);
        due.unchanged(before, x);
        Scene full = new Scene(0, 80);
        int[] shares = full.lockedShares;
        due.is("the last but one with 80", full.x.give(Scene.LOCKED, 1, shares[1]), EscrowedVersions.FULL);
    }

    private static void noRoomForTwo(Due due) {
        due.sentence("give: FULL (no room in the log for what the call would write there: two entries)");
        Scene scene = new Scene(0, 77);
        EscrowedVersions x = scene.x;
        x.give(Scene.LOCKED, 1, scene.lockedShares[1]);
        due.is("the last with 78 entries", x.give(Scene.LOCKED, 5, scene.lockedShares[5]), 0);
        due.is("entries()", x.entries(), 80);
        due.is("kind of the 80th", x.log(79, 0), 6);
        Scene close = new Scene(0, 78);
        int[] shares = close.lockedShares;
        close.x.give(Scene.LOCKED, 1, shares[1]);
        String before = Prepared.state(close.x);
        due.is("the last with 79 entries", close.x.give(Scene.LOCKED, 5, shares[5]), EscrowedVersions.FULL);
        due.unchanged(before, close.x);
    }

    /** With a threshold of 1 the first share is the last one too: its call always writes both entries. */
    private static void roomForTheOnlyShare(Due due) {
        due.sentence("give: FULL (no room in the log for what the call would write there: t = 1)");
        for (int entries = 78; entries <= 80; entries++) {
            EscrowedVersions x = locked(1, 2);
            int share = x.share(2);
            Prepared.fillLog(x, 1, entries);
            String before = Prepared.state(x);
            int want = entries == 78 ? 0 : EscrowedVersions.FULL;
            due.is("the only one that is needed, with " + entries, x.give(0, 2, share), want);
            due.is("lock", x.version(0, 1), entries == 78 ? 0 : 1);
            due.is("entries()", x.entries(), entries == 78 ? 80 : entries);
            if (want != 0) {
                due.unchanged(before, x);
            }
        }
    }

    /** That share i was given before takes FULL away, and no other refusal. */
    private static void givenAgainButForged(Due due) {
        due.sentence("nothing changes. .. FORGED .. FULL (not when share i was given before)");
        int[] rows = {20, 79, 80};
        for (int entries : rows) {
            Scene scene = new Scene(0, entries);
            int[] shares = scene.lockedShares;
            String before = Prepared.state(scene.x);
            due.is("the right share again", scene.x.give(Scene.LOCKED, 2, shares[2]), 2);
            due.is("a wrong share", scene.x.give(Scene.LOCKED, 2, shares[2] ^ 1), EscrowedVersions.FORGED);
            due.is("another's share", scene.x.give(Scene.LOCKED, 2, shares[1]), EscrowedVersions.FORGED);
            due.is("the right share once more", scene.x.give(Scene.LOCKED, 2, shares[2]), 2);
            due.unchanged(before, scene.x);
        }
    }

    private static void fullButGivenBefore(Due due) {
        due.sentence("FULL (not when share i was given before)");
        Scene full = new Scene(0, 80);
        String before = Prepared.state(full.x);
        due.is("with 80 entries", full.x.give(Scene.LOCKED, 2, full.lockedShares[2]), 2);
        due.unchanged(before, full.x);
        Scene close = new Scene(0, 78);
        close.x.give(Scene.LOCKED, 1, close.lockedShares[1]);
        before = Prepared.state(close.x);
        due.is("with 79 entries, one being needed", close.x.give(Scene.LOCKED, 2, close.lockedShares[2]), 1);
        due.unchanged(before, close.x);
    }
}
