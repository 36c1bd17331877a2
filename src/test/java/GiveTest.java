/** Promise 10: give. */
public final class GiveTest {
    private static final int NUMBER = -123456789;

    public static void main(String[] args) {
        Due due = new Due("GiveTest");
        everySubset(due);
        entriesOfTheLog(due);
        givenBefore(due);
        severalVersions(due);
        forged(due);
        refusals(due);
        fullLog(due);
        due.end();
    }

    /** Any t shares in any order put the secret together; an envelope made before tells that it is the one. */
    private static void everySubset(Due due) {
        for (int n = 1; n <= 8; n++) {
            for (int set = 1; set < 1 << n; set++) {
                opens(due, n, set, false);
                opens(due, n, set, true);
            }
        }
    }

    private static void opens(Due due, int n, int set, boolean backwards) {
        int t = Integer.bitCount(set);
        String run = "n " + n + ", shares " + Integer.toBinaryString(set) + (backwards ? " backwards" : "") + ": ";
        EscrowedVersions x = Prepared.withVersions(1);
        x.wrap(NUMBER);
        Prepared.someCoins(x, 4 * (t - 1));
        x.split(0, t, n);
        x.lock(0);
        int needed = t;
        int given = 0;
        for (int k = 1; k <= n; k++) {
            int i = backwards ? n + 1 - k : k;
            if ((set >> i - 1 & 1) == 0) {
                continue;
            }
            needed--;
            given += 1 << i;
            due.is(run + "give " + i, x.give(0, i, x.share(i)), needed);
            due.is(run + "lock behind " + i, x.version(0, 1), needed == 0 ? 0 : 1);
            due.is(run + "given behind " + i, x.version(0, 3), needed == 0 ? 0 : given);
        }
        due.is(run + "unwrap()", x.unwrap(), NUMBER & 0xFFFFFFFFL);
        due.is(run + "escrow", x.version(0, 2), 16 * t + n);
        due.is(run + "state", x.version(0, 0), 1);
        x.split(0, 1, 1);
        due.is(run + "the secret", x.share(1), Prepared.secret(0));
    }

    private static void entriesOfTheLog(Due due) {
        EscrowedVersions x = Prepared.withVersions(2);
        Prepared.someCoins(x, 4);
        x.split(1, 2, 5);
        x.lock(1);
        x.give(1, 5, x.share(5));
        due.is("entries()", x.entries(), 5);
        due.is("kind", x.log(4, 0), 5);
        due.is("version", x.log(4, 1), 1);
        due.is("detail", x.log(4, 2), 5);
        x.give(1, 3, x.share(3));
        due.is("entries()", x.entries(), 7);
        due.is("kind", x.log(5, 0), 5);
        due.is("version", x.log(5, 1), 1);
        due.is("detail", x.log(5, 2), 3);
        due.is("kind of the opening", x.log(6, 0), 6);
        due.is("version of the opening", x.log(6, 1), 1);
        due.is("detail of the opening", x.log(6, 2), 2);
    }

    private static void givenBefore(Due due) {
        EscrowedVersions x = Prepared.withVersions(1);
        Prepared.someCoins(x, 8);
        x.split(0, 3, 4);
        x.lock(0);
        due.is("share 2", x.give(0, 2, x.share(2)), 2);
        String before = Prepared.state(x);
        due.is("share 2 again", x.give(0, 2, x.share(2)), 2);
        due.is("share 2 again, forged", x.give(0, 2, x.share(2) ^ 1), EscrowedVersions.FORGED);
        due.is("nothing changed", before.equals(Prepared.state(x)), true);
        due.is("share 4", x.give(0, 4, x.share(4)), 1);
        due.is("share 2 once more", x.give(0, 2, x.share(2)), 1);
        due.is("share 4 again", x.give(0, 4, x.share(4)), 1);
        due.is("given", x.version(0, 3), 20);
        due.is("share 1", x.give(0, 1, x.share(1)), 0);
        due.is("share 1 behind the opening", x.give(0, 1, x.share(1)), EscrowedVersions.STATE);
    }

    /** The shares of two LOCKED versions, one of them RETIRED, do not touch each other. */
    private static void severalVersions(Due due) {
        EscrowedVersions x = Prepared.withVersions(2);
        Prepared.someCoins(x, 8);
        x.split(0, 2, 3);
        int[] first = {0, x.share(1), x.share(2), x.share(3)};
        x.split(1, 2, 3);
        x.lock(0);
        x.lock(1);
        due.is("share 1 of 0 for 1", x.give(1, 1, first[1]), EscrowedVersions.FORGED);
        due.is("share 1 of 0", x.give(0, 1, first[1]), 1);
        due.is("given of 1", x.version(1, 3), 0);
        due.is("share 3 of 1", x.give(1, 3, x.share(3)), 1);
        due.is("given of 0", x.version(0, 3), 2);
        due.is("share 2 of 0", x.give(0, 2, first[2]), 0);
        due.is("state of 0", x.version(0, 0), 2);
        due.is("lock of 0", x.version(0, 1), 0);
        due.is("lock of 1", x.version(1, 1), 1);
        x.split(0, 1, 1);
        due.is("the secret of 0", x.share(1), Prepared.secret(0));
    }

    private static void forged(Due due) {
        EscrowedVersions x = Prepared.withVersions(1);
        Prepared.someCoins(x, 4);
        x.split(0, 2, 3);
        x.lock(0);
        String before = Prepared.state(x);
        for (int bit = 0; bit < 32; bit++) {
            due.is("bit " + bit + " turned", x.give(0, 2, x.share(2) ^ 1 << bit), EscrowedVersions.FORGED);
        }
        due.is("share 1 as 2", x.give(0, 2, x.share(1)), EscrowedVersions.FORGED);
        int[] wrong = {0, 4, -1, 8, 9, 33, 34, Integer.MIN_VALUE, Integer.MAX_VALUE};
        for (int i : wrong) {
            due.is("give(0, " + i + ", 0)", x.give(0, i, 0), EscrowedVersions.FORGED);
            due.is("give(0, " + i + ", share 2)", x.give(0, i, x.share(2)), EscrowedVersions.FORGED);
        }
        due.is("nothing changed", before.equals(Prepared.state(x)), true);
    }

    private static void refusals(Due due) {
        EscrowedVersions x = Prepared.withVersions(3);
        x.split(0, 1, 1);
        x.destroy(0);
        x.split(1, 1, 1);
        String before = Prepared.state(x);
        int[] none = {-1, 3, 8, Integer.MIN_VALUE, Integer.MAX_VALUE};
        for (int v : none) {
            due.is("give(" + v + ", 1, 0)", x.give(v, 1, 0), EscrowedVersions.BAD);
            due.is("give(" + v + ", 9, 0)", x.give(v, 9, 0), EscrowedVersions.BAD);
        }
        due.is("GONE", x.give(0, 1, Prepared.secret(0)), EscrowedVersions.GONE);
        due.is("GONE before FORGED", x.give(0, 9, 0), EscrowedVersions.GONE);
        due.is("STATE", x.give(1, 1, x.share(1)), EscrowedVersions.STATE);
        due.is("STATE before FORGED", x.give(1, 9, 0), EscrowedVersions.STATE);
        due.is("STATE without escrow", x.give(2, 1, 0), EscrowedVersions.STATE);
        due.is("nothing changed", before.equals(Prepared.state(x)), true);
    }

    private static void fullLog(Due due) {
        EscrowedVersions x = twoOfThree(77);
        due.is("share 1 with 77 entries", x.give(0, 1, shareOfTwo(1)), 1);
        due.is("share 2 with 78 entries", x.give(0, 2, shareOfTwo(2)), 0);
        due.is("entries()", x.entries(), 80);

        x = twoOfThree(78);
        due.is("share 1 with 78 entries", x.give(0, 1, shareOfTwo(1)), 1);
        String before = Prepared.state(x);
        due.is("share 2 with 79 entries", x.give(0, 2, shareOfTwo(2)), EscrowedVersions.FULL);
        due.is("share 1 again with 79 entries", x.give(0, 1, shareOfTwo(1)), 1);
        due.is("FORGED before FULL", x.give(0, 2, 0), EscrowedVersions.FORGED);
        due.is("nothing changed", before.equals(Prepared.state(x)), true);

        x = twoOfThree(79);
        due.is("share 3 with 79 entries", x.give(0, 3, shareOfTwo(3)), 1);
        before = Prepared.state(x);
        due.is("share 3 again with 80 entries", x.give(0, 3, shareOfTwo(3)), 1);
        due.is("share 2 with 80 entries", x.give(0, 2, shareOfTwo(2)), EscrowedVersions.FULL);
        due.is("FORGED before FULL", x.give(0, 4, 0), EscrowedVersions.FORGED);
        due.is("nothing changed", before.equals(Prepared.state(x)), true);

        x = twoOfThree(80);
        before = Prepared.state(x);
        due.is("share 1 with 80 entries", x.give(0, 1, shareOfTwo(1)), EscrowedVersions.FULL);
        due.is("STATE before FULL", x.give(1, 1, 0), EscrowedVersions.STATE);
        due.is("BAD before FULL", x.give(2, 1, 0), EscrowedVersions.BAD);
        due.is("nothing changed", before.equals(Prepared.state(x)), true);
    }

    /** Version 0 is LOCKED with an escrow by 2 and 3, and the log has so many entries. */
    private static EscrowedVersions twoOfThree(int entries) {
        EscrowedVersions x = Prepared.withVersions(2);
        Prepared.coins(x, 1, 2, 3, 4);
        x.split(0, 2, 3);
        x.lock(0);
        Prepared.fillLog(x, 1, entries);
        return x;
    }

    /** Share i of twoOfThree. */
    private static int shareOfTwo(int i) {
        int share = 0;
        for (int k = 0; k < 4; k++) {
            share = share << 8 | (Prepared.secret(0) >>> 24 - 8 * k & 255 ^ Model.product(k + 1, i));
        }
        return share;
    }
}
