/** Promises 2 and 3: coin, coins. */
public final class CoinsTest {
    public static void main(String[] args) {
        Due due = new Due("CoinsTest");
        wrongBytes(due);
        sixtyFour(due);
        firstInFirstOut(due);
        roundAndRound(due);
        due.end();
    }

    private static void wrongBytes(Due due) {
        EscrowedVersions x = new EscrowedVersions();
        int[] wrong = {-1, 256, -256, 511, Integer.MIN_VALUE, Integer.MAX_VALUE};
        for (int b : wrong) {
            due.is("coin(" + b + ")", x.coin(b), false);
            due.is("coins() behind it", x.coins(), 0);
        }
        due.is("coin(0)", x.coin(0), true);
        due.is("coin(255)", x.coin(255), true);
        due.is("coins()", x.coins(), 2);
    }

    private static void sixtyFour(Due due) {
        EscrowedVersions x = new EscrowedVersions();
        for (int k = 1; k <= 64; k++) {
            due.is("coin " + k, x.coin(k), true);
            due.is("coins() behind coin " + k, x.coins(), k);
        }
        due.is("coin 65", x.coin(1), false);
        due.is("coin 65, and not a byte", x.coin(300), false);
        due.is("coins()", x.coins(), 64);
        due.is("rotate()", x.rotate(), 0);
        due.is("coins() behind rotate()", x.coins(), 60);
        due.is("coin 65 behind rotate()", x.coin(1), true);
    }

    private static void firstInFirstOut(Due due) {
        EscrowedVersions x = new EscrowedVersions();
        Prepared.coins(x, 0x81, 0x82, 0x83, 0x84, 0x05, 0x06, 0x07, 0x08);
        x.rotate();
        x.split(0, 1, 1);
        due.is("the first secret", x.share(1), 0x81828384);
        x.rotate();
        x.split(1, 1, 1);
        due.is("the second secret", x.share(1), 0x05060708);
    }

    /** More coins than the row has places pass through it in all. */
    private static void roundAndRound(Due due) {
        EscrowedVersions x = Prepared.withVersions(1);
        for (int k = 0; k < 5; k++) {
            Prepared.someCoins(x, 28);
            due.is("split(0, 8, 8)", x.split(0, 8, 8), 8);
            due.is("coins()", x.coins(), 0);
        }
        Prepared.coins(x, 9, 8, 7, 6);
        due.is("rotate()", x.rotate(), 1);
        x.split(1, 1, 1);
        due.is("the secret", x.share(1), 0x09080706);
    }
}
