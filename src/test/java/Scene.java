/**
 * An object that has a version in each condition that a refusal names, with as many coins and log
 * entries as are asked for. Two scenes made alike are alike, so one shows what a call changed in the other.
 */
final class Scene {
    /** These are the numbers of the versions. */
    static final int GONE = 0;
    static final int LOCKED = 1; // by 3 and 5, with share 2 given
    static final int ESCROWED = 2; // by 2 and 3
    static final int PLAIN = 3; // without escrow
    static final int FILLER = 4; // split again and again to fill the log
    static final int ACTIVE = 5;
    static final int NONE = 6;

    static final int NUMBER = -20304050;

    final EscrowedVersions x;
    final int[] lockedShares;
    final int[] escrowedShares;

    /** The scene itself takes 11 log entries. */
    Scene(int coins, int entries) {
        x = Prepared.withVersions(6);
        x.destroy(GONE);
        Prepared.someCoins(x, 12);
        x.split(LOCKED, 3, 5);
        lockedShares = shares(5);
        x.split(ESCROWED, 2, 3);
        escrowedShares = shares(3);
        x.lock(LOCKED);
        x.give(LOCKED, 2, lockedShares[2]);
        x.wrap(7);
        x.wrap(NUMBER);
        Prepared.fillLog(x, FILLER, entries);
        for (int k = 0; k < coins; k++) {
            x.coin(201 + k & 255);
        }
    }

    private int[] shares(int n) {
        int[] shares = new int[n + 1];
        for (int i = 1; i <= n; i++) {
            shares[i] = x.share(i);
        }
        return shares;
    }
}
