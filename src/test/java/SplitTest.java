/** Promises 7 and 8: split, share. */
public final class SplitTest {
    public static void main(String[] args) {
        Due due = new Due("SplitTest");
        knownShares(due);
        everyShape(due);
        latestSplitting(due);
        inPlaceOfTheOld(due);
        numbers(due);
        refusals(due);
        due.end();
    }

    /** The secret's bytes 1, 2, 3, 4 with 5, 6, 7, 8 as coefficients of power 1. */
    private static void knownShares(Due due) {
        EscrowedVersions x = new EscrowedVersions();
        Prepared.coins(x, 1, 2, 3, 4, 5, 6, 7, 8);
        x.rotate();
        due.is("split(0, 2, 3)", x.split(0, 2, 3), 3);
        due.is("coins()", x.coins(), 0);
        due.is("share(1)", x.share(1), 67372044);
        due.is("share(2)", x.share(2), 185470228);
        due.is("share(3)", x.share(3), 235407900);
        due.is("escrow", x.version(0, 2), 35);
        due.is("kind", x.log(1, 0), 3);
        due.is("version in the log", x.log(1, 1), 0);
        due.is("detail", x.log(1, 2), 35);
    }

    private static void everyShape(Due due) {
        for (int n = 1; n <= 8; n++) {
            for (int t = 1; t <= n; t++) {
                EscrowedVersions x = Prepared.withVersions(2);
                Prepared.someCoins(x, 4 * (t - 1) + 3);
                String call = "split(0, " + t + ", " + n + ")";
                due.is(call, x.split(0, t, n), n);
                due.is("coins() behind " + call, x.coins(), 3);
                due.is("escrow by " + call, x.version(0, 2), 16 * t + n);
                due.is("lock behind " + call, x.version(0, 1), 0);
                due.is("escrow of the other", x.version(1, 2), 0);
                for (int i = -1; i <= 9; i++) {
                    int want = i >= 1 && i <= n ? shareOf(Prepared.secret(0), t, i) : 0;
                    due.is("share(" + i + ") of " + call, x.share(i), want);
                }
            }
        }
    }

    /** Share i, with the coins of someCoins, by sums of powers. */
    private static int shareOf(int secret, int t, int i) {
        int share = 0;
        for (int k = 0; k < 4; k++) {
            int value = secret >>> 24 - 8 * k & 255;
            int power = 1;
            for (int j = 1; j < t; j++) {
                int coin = (k * (t - 1) + j - 1) * 37 + 11 & 255;
                power = Model.product(power, i);
                value ^= Model.product(coin, power);
            }
            share = share << 8 | value;
        }
        return share;
    }

    private static void latestSplitting(Due due) {
        EscrowedVersions x = Prepared.withVersions(2);
        due.is("share(1) before the first", x.share(1), 0);
        x.split(0, 1, 8);
        due.is("share(8)", x.share(8), Prepared.secret(0));
        x.split(1, 1, 2);
        due.is("share(1) of the other version", x.share(1), Prepared.secret(1));
        due.is("share(2) of the other version", x.share(2), Prepared.secret(1));
        due.is("share(3), which it has not", x.share(3), 0);
        due.is("a split that is refused", x.split(0, 2, 3), EscrowedVersions.COINS);
        due.is("share(2) stays", x.share(2), Prepared.secret(1));
        due.is("share(3) stays", x.share(3), 0);
        x.lock(1);
        due.is("share(2) stays when it is LOCKED", x.share(2), Prepared.secret(1));
        int[] wrong = {0, -1, 9, Integer.MIN_VALUE, Integer.MAX_VALUE};
        for (int i : wrong) {
            due.is("share(" + i + ")", x.share(i), 0);
        }
    }

    private static void inPlaceOfTheOld(Due due) {
        EscrowedVersions x = Prepared.withVersions(1);
        Prepared.someCoins(x, 32);
        x.split(0, 2, 8);
        int old = x.share(1);
        x.split(0, 3, 4);
        due.is("escrow", x.version(0, 2), 52);
        x.lock(0);
        due.is("a share of the old escrow", x.give(0, 1, old), EscrowedVersions.FORGED);
        due.is("a number of the old escrow", x.give(0, 5, x.share(5)), EscrowedVersions.FORGED);
        due.is("a share of the new escrow", x.give(0, 1, x.share(1)), 2);
    }

    private static void numbers(Due due) {
        EscrowedVersions x = Prepared.withVersions(1);
        Prepared.someCoins(x, 64);
        String before = Prepared.state(x);
        int[][] wrong = {{-1, 1, 1}, {1, 1, 1}, {8, 1, 1}, {Integer.MIN_VALUE, 1, 1}, {Integer.MAX_VALUE, 1, 1},
            {0, 0, 1}, {0, 0, 0}, {0, -1, 3}, {0, 2, 1}, {0, 3, 2}, {0, 1, 9}, {0, 9, 9}, {0, 8, 9}, {0, 1, 0},
            {0, 1, -1}, {0, Integer.MIN_VALUE, 1}, {0, 1, Integer.MAX_VALUE}, {0, Integer.MAX_VALUE, Integer.MAX_VALUE},
            {0, Integer.MIN_VALUE, Integer.MIN_VALUE}};
        for (int[] a : wrong) {
            String call = "split(" + a[0] + ", " + a[1] + ", " + a[2] + ")";
            due.is(call, x.split(a[0], a[1], a[2]), EscrowedVersions.BAD);
        }
        due.is("nothing changed", before.equals(Prepared.state(x)), true);
    }

    private static void refusals(Due due) {
        EscrowedVersions x = Prepared.withVersions(4);
        x.destroy(0);
        x.split(1, 1, 1);
        x.lock(1);
        Prepared.someCoins(x, 3);
        String before = Prepared.state(x);
        due.is("BAD before GONE", x.split(0, 2, 1), EscrowedVersions.BAD);
        due.is("GONE", x.split(0, 1, 1), EscrowedVersions.GONE);
        due.is("GONE before COINS", x.split(0, 2, 2), EscrowedVersions.GONE);
        due.is("BAD before LOCKED", x.split(1, 0, 1), EscrowedVersions.BAD);
        due.is("LOCKED", x.split(1, 1, 1), EscrowedVersions.LOCKED);
        due.is("LOCKED before COINS", x.split(1, 2, 2), EscrowedVersions.LOCKED);
        due.is("COINS", x.split(2, 2, 2), EscrowedVersions.COINS);
        due.is("COINS for t = 8", x.split(3, 8, 8), EscrowedVersions.COINS);
        due.is("nothing changed", before.equals(Prepared.state(x)), true);
        Prepared.fillLog(x, 2, 80);
        before = Prepared.state(x);
        due.is("BAD before FULL", x.split(2, 1, 9), EscrowedVersions.BAD);
        due.is("GONE before FULL", x.split(0, 1, 1), EscrowedVersions.GONE);
        due.is("LOCKED before FULL", x.split(1, 1, 1), EscrowedVersions.LOCKED);
        due.is("FULL", x.split(2, 1, 1), EscrowedVersions.FULL);
        due.is("FULL before COINS", x.split(2, 2, 2), EscrowedVersions.FULL);
        due.is("nothing changed", before.equals(Prepared.state(x)), true);
    }
}
