/** The boundary cases of promises 1 to 4 (a new object, coin, coins, times), a method for each sentence. */
public final class CoinEdgesTest {
    private static final int[] NO_BYTES = {-1, 256, -256, 257, 511, 65536, Integer.MIN_VALUE, Integer.MAX_VALUE};

    public static void main(String[] args) {
        Due due = new Due("CoinEdgesTest");
        nothingAtFirst(due);
        bytesBehindTheCoins(due);
        noBytes(due);
        sixtyFourAreThere(due);
        placesThatBecomeFree(due);
        numberOfCoins(due);
        products(due);
        noElements(due);
        due.end();
    }

    private static void nothingAtFirst(Due due) {
        due.sentence("No coins, no versions, an empty envelope, an empty log.");
        EscrowedVersions x = new EscrowedVersions();
        due.is("coins()", x.coins(), 0);
        due.is("versions()", x.versions(), 0);
        due.is("length()", x.length(), 0);
        due.is("entries()", x.entries(), 0);
        due.is("rotate() without coins", x.rotate(), EscrowedVersions.COINS);
        due.is("version(0, 0)", x.version(0, 0), EscrowedVersions.BAD);
        due.is("unwrap()", x.unwrap(), EscrowedVersions.SHAPE);
        due.is("byteAt(0)", x.byteAt(0), EscrowedVersions.BAD);
        due.is("log(0, 3)", x.log(0, 3), 0);
    }

    private static void bytesBehindTheCoins(Due due) {
        due.sentence("Puts a byte behind the coins");
        EscrowedVersions x = new EscrowedVersions();
        int[] bytes = {0, 255, 1, 254};
        for (int b : bytes) {
            due.is("coin(" + b + ")", x.coin(b), true);
        }
        x.rotate();
        x.split(0, 1, 1);
        due.is("their int", x.share(1), 0x00FF01FE);
    }

    private static void noBytes(Due due) {
        due.sentence("false, refused, when b is not 0 .. 255");
        EscrowedVersions x = new EscrowedVersions();
        for (int b : NO_BYTES) {
            due.is("coin(" + b + ")", x.coin(b), false);
            due.is("coins()", x.coins(), 0);
        }
    }

    private static void sixtyFourAreThere(Due due) {
        due.sentence("or 64 are there");
        EscrowedVersions x = new EscrowedVersions();
        Prepared.coins(x, 1, 2, 3, 4);
        Prepared.someCoins(x, 59);
        due.is("coin(9) with 63", x.coin(9), true);
        due.is("coin(9) with 64", x.coin(9), false);
        due.is("coin(0) with 64", x.coin(0), false);
        due.is("coin(256) with 64", x.coin(256), false);
        due.is("coins()", x.coins(), 64);
        x.rotate();
        x.split(0, 1, 1);
        due.is("the first four, which no refused coin touched", x.share(1), 0x01020304);
    }

    private static void placesThatBecomeFree(Due due) {
        due.sentence("or 64 are there (and no longer when some were taken)");
        EscrowedVersions x = new EscrowedVersions();
        Prepared.someCoins(x, 64);
        x.rotate();
        for (int k = 0; k < 4; k++) {
            due.is("coin(7) with " + (60 + k), x.coin(7), true);
        }
        due.is("coin(7) with 64", x.coin(7), false);
        x.split(0, 2, 2);
        due.is("coin(7) behind a splitting", x.coin(7), true);
    }

    private static void numberOfCoins(Due due) {
        due.sentence("The number of coins.");
        EscrowedVersions x = new EscrowedVersions();
        due.is("coins() at first", x.coins(), 0);
        x.coin(0);
        due.is("coins() behind coin(0)", x.coins(), 1);
        Prepared.someCoins(x, 62);
        due.is("coins() behind 63", x.coins(), 63);
        x.coin(0);
        due.is("coins() behind 64", x.coins(), 64);
        x.coin(0);
        due.is("coins() behind one too many", x.coins(), 64);
        x.rotate();
        due.is("coins() behind rotate()", x.coins(), 60);
        x.split(0, 8, 8);
        due.is("coins() behind split(0, 8, 8)", x.coins(), 32);
        x.split(0, 8, 8);
        due.is("coins() behind another", x.coins(), 4);
        x.rotate();
        due.is("coins() behind the last four", x.coins(), 0);
    }

    private static void products(Due due) {
        due.sentence("The product of two elements of the field");
        EscrowedVersions x = new EscrowedVersions();
        int[] some = {0, 1, 2, 127, 128, 254, 255};
        for (int a : some) {
            due.is("times(0, " + a + ")", x.times(0, a), 0);
            due.is("times(" + a + ", 0)", x.times(a, 0), 0);
            due.is("times(1, " + a + ")", x.times(1, a), a);
            due.is("times(" + a + ", 1)", x.times(a, 1), a);
        }
        due.is("times(255, 2)", x.times(255, 2), 229);
        due.is("times(2, 255)", x.times(2, 255), 229);
        due.is("times(255, 255)", x.times(255, 255), 19);
    }

    private static void noElements(Due due) {
        due.sentence("BAD when a or b is not 0 .. 255.");
        EscrowedVersions x = new EscrowedVersions();
        int[] elements = {0, 1, 255};
        for (int wrong : NO_BYTES) {
            for (int right : elements) {
                due.is("times(" + wrong + ", " + right + ")", x.times(wrong, right), EscrowedVersions.BAD);
                due.is("times(" + right + ", " + wrong + ")", x.times(right, wrong), EscrowedVersions.BAD);
            }
            due.is("times(" + wrong + ", " + wrong + ")", x.times(wrong, wrong), EscrowedVersions.BAD);
        }
    }
}
