import java.math.BigInteger;

/** The boundary cases under "Terms", a method for each sentence. */
public final class TermsEdgesTest {
    private static final BigInteger TWO_TO_32 = BigInteger.ONE.shiftLeft(32);
    private static final BigInteger FACTOR = BigInteger.valueOf(668265263);
    private static final BigInteger SUMMAND = BigInteger.valueOf(374761393);
    private static final int[] EDGES = {0, 1, -1, Integer.MAX_VALUE, Integer.MIN_VALUE, Integer.MIN_VALUE + 1,
        0x7FFF, 0x8000, 0xFFFF, 0x10000, 0xFFFF8000, 0x80007FFF};

    public static void main(String[] args) {
        Due due = new Due("TermsEdgesTest");
        callsOfOneObject(due);
        mixByIntsThatWrap(due);
        mixWithZerosComingIn(due);
        coinsAtMost(due);
        takesTheFirst(due);
        fourBytesMakeAnInt(due);
        versionsAtMost(due);
        atMostOneActive(due);
        noVersionsAtFirst(due);
        remainder(due);
        splittingByOne(due);
        splittingTakesCoins(due);
        fieldsElementEight(due);
        puttingTogether(due);
        entriesAtMost(due);
        firstSeal(due);
        bytesAtMost(due);
        emptyAtFirst(due);
        counterAtFirst(due);
        lowestBytesOfTheCounter(due);
        lowestBytesOfTheLastMix(due);
        due.end();
    }

    private static void callsOfOneObject(Due due) {
        due.sentence("An object is used for at most 512 calls after it has been made");
        EscrowedVersions x = Prepared.withVersions(1); // 5 calls
        for (int c = 0; c < 506; c++) {
            x.wrap(c * 1000003);
        }
        due.is("unwrap() as the 512th call", x.unwrap(), 505 * 1000003L);
    }

    /** MIX by numbers without an end, and its remainder by 2^32. */
    private static int wideMix(int h, int x) {
        BigInteger y = BigInteger.valueOf(h ^ x).multiply(FACTOR).add(SUMMAND).mod(TWO_TO_32);
        return y.xor(y.shiftRight(15)).intValue();
    }

    /** The h whose y in MIX(h, x) is as given. */
    private static int mixedTo(int y, int x) {
        BigInteger h = BigInteger.valueOf(y).subtract(SUMMAND).multiply(FACTOR.modInverse(TWO_TO_32));
        return h.mod(TWO_TO_32).intValue() ^ x;
    }

    /** The h whose MIX(h, x) is as given. */
    private static int unmixed(int mix, int x) {
        return mixedTo(mix ^ mix >>> 15 ^ mix >>> 30, x);
    }

    /** The body of 0 under a secret, the counter being 0: MIX(MIX(secret, 0), 1). */
    private static int bodyOfZero(int secret) {
        EscrowedVersions x = withSecret(secret);
        x.wrap(0);
        return number(x, 3, 4);
    }

    private static EscrowedVersions withSecret(int secret) {
        EscrowedVersions x = new EscrowedVersions();
        Prepared.coins(x, secret >>> 24, secret >>> 16 & 255, secret >>> 8 & 255, secret & 255);
        x.rotate();
        return x;
    }

    private static int number(EscrowedVersions x, int k, int many) {
        int number = 0;
        for (int j = k; j < k + many; j++) {
            number = number << 8 | x.byteAt(j);
        }
        return number;
    }

    private static void mixByIntsThatWrap(Due due) {
        due.sentence("with y = (h exclusive-or x) * 668265263 + 374761393, all by ints that wrap");
        for (int secret : EDGES) {
            due.is("MIX(MIX(" + secret + ", 0), 1)", bodyOfZero(secret), wideMix(wideMix(secret, 0), 1));
        }
        for (int y : EDGES) {
            int secret = mixedTo(y, 0);
            due.is("with first y = " + y, bodyOfZero(secret), wideMix(y ^ y >>> 15, 1));
        }
    }

    private static void mixWithZerosComingIn(Due due) {
        due.sentence("it is y exclusive-or (y shifted right by 15, with zeros coming in)");
        int[][] rows = {{0, 0}, {1, 1}, {-1, 0xFFFE0000}, {Integer.MIN_VALUE, 0x80010000},
            {Integer.MAX_VALUE, 0x7FFF0000}, {0x7FFF, 0x7FFF}, {0x8000, 0x8001}, {0xC0000000, 0xC0018000}};
        for (int[] row : rows) {
            int secret = unmixed(mixedTo(row[0], 1), 0);
            due.is("with last y = " + row[0], bodyOfZero(secret), row[1]);
        }
    }

    private static void coinsAtMost(Due due) {
        due.sentence("COINS are bytes in a row, at most 64");
        EscrowedVersions x = new EscrowedVersions();
        Prepared.someCoins(x, 63);
        due.is("the coin behind 63", x.coin(5), true);
        due.is("coins()", x.coins(), 64);
        due.is("the coin behind 64", x.coin(6), false);
        due.is("coins()", x.coins(), 64);
    }

    private static void takesTheFirst(Due due) {
        due.sentence("to take n coins is to take the first n out of it");
        EscrowedVersions x = new EscrowedVersions();
        for (int k = 0; k < 64; k++) {
            x.coin(k);
        }
        for (int v = 0; v < 8; v++) {
            x.rotate();
            x.split(v, 1, 1);
            due.is("secret " + v, x.share(1), 0x00010203 + v * 0x04040404);
            Prepared.coins(x, 64 + 4 * v, 65 + 4 * v, 66 + 4 * v, 67 + 4 * v);
        }
        due.is("coins()", x.coins(), 64);
        // All that is left, 32 .. 95, comes out in its order too: 28 coins in each of two splittings.
        due.is("split(0, 8, 8)", x.split(0, 8, 8), 8);
        due.is("share(1), sums of seven coins", x.share(1), sumsOfSeven(0x00010203, 32));
        due.is("split(7, 8, 8)", x.split(7, 8, 8), 8);
        due.is("share(1), sums of seven coins", x.share(1), sumsOfSeven(0x1C1D1E1F, 60));
        due.is("coins()", x.coins(), 8);
    }

    /** Share 1 of a splitting by 8: each byte of the secret and seven coins that follow one another, summed. */
    private static int sumsOfSeven(int secret, int firstCoin) {
        int share = secret;
        for (int k = 0; k < 28; k++) {
            share ^= firstCoin + k << 24 - 8 * (k / 7);
        }
        return share;
    }

    private static void fourBytesMakeAnInt(Due due) {
        due.sentence("Four bytes make an int, the highest first.");
        int[][] rows = {{0, 0, 0, 0}, {255, 255, 255, 255}, {128, 0, 0, 0}, {127, 255, 255, 255}, {0, 0, 0, 255},
            {0, 0, 255, 0}, {0, 255, 0, 0}, {255, 0, 0, 0}, {1, 2, 3, 4}};
        int[] ints = {0, -1, Integer.MIN_VALUE, Integer.MAX_VALUE, 255, 65280, 16711680, -16777216, 16909060};
        for (int k = 0; k < rows.length; k++) {
            EscrowedVersions x = new EscrowedVersions();
            Prepared.coins(x, rows[k]);
            x.rotate();
            x.split(0, 1, 1);
            due.is("the int of row " + k, x.share(1), ints[k]);
        }
    }

    private static void versionsAtMost(Due due) {
        due.sentence("VERSIONS are numbered 0, 1, .. as they are made, at most 8.");
        EscrowedVersions x = new EscrowedVersions();
        Prepared.someCoins(x, 40);
        for (int v = 0; v < 8; v++) {
            due.is("rotate()", x.rotate(), v);
        }
        due.is("the ninth", x.rotate(), EscrowedVersions.FULL);
        for (int v = 0; v < 8; v++) {
            x.destroy(v);
        }
        due.is("the ninth, all eight being DESTROYED", x.rotate(), EscrowedVersions.FULL);
        due.is("versions()", x.versions(), 8);
    }

    private static void atMostOneActive(Due due) {
        due.sentence("at most one being ACTIVE");
        EscrowedVersions x = new EscrowedVersions();
        Prepared.someCoins(x, 16);
        due.is("at first", actives(x), 0);
        x.rotate();
        due.is("behind the first", actives(x), 1);
        x.rotate();
        due.is("behind the second", actives(x), 1);
        x.destroy(0);
        due.is("behind a RETIRED one's end", actives(x), 1);
        x.destroy(1);
        due.is("behind the ACTIVE one's end", actives(x), 0);
        x.rotate();
        due.is("behind the third", actives(x), 1);
    }

    private static int actives(EscrowedVersions x) {
        int count = 0;
        for (int v = 0; v < 8; v++) {
            count += x.version(v, 0) == 1 ? 1 : 0;
        }
        return count;
    }

    private static void noVersionsAtFirst(Due due) {
        due.sentence("At first there are no versions.");
        EscrowedVersions x = new EscrowedVersions();
        due.is("versions()", x.versions(), 0);
        due.is("version(0, 0)", x.version(0, 0), EscrowedVersions.BAD);
    }

    private static void remainder(Due due) {
        due.sentence("their product is taken by the remainder by x^8 + x^4 + x^3 + x + 1");
        EscrowedVersions x = new EscrowedVersions();
        due.is("degree 7, nothing to take off", x.times(2, 64), 128);
        due.is("degree 7, all bits", x.times(1, 255), 255);
        due.is("degree 8, the first to be reduced", x.times(2, 128), 27);
        due.is("degree 8, the polynomial itself and 1", x.times(3, 246), 1);
        due.is("degree 14, the highest", x.times(128, 128), 154);
        due.is("degree 14, all bits", x.times(255, 255), 19);
    }

    private static void splittingByOne(Due due) {
        due.sentence("For each byte, from 0 to 3, t - 1 coins are taken (none for t = 1)");
        EscrowedVersions x = Prepared.withVersions(1);
        due.is("split(0, 1, 8) without coins", x.split(0, 1, 8), 8);
        for (int i = 1; i <= 8; i++) {
            due.is("share(" + i + ")", x.share(i), Prepared.secret(0));
        }
        Prepared.someCoins(x, 5);
        x.split(0, 1, 8);
        due.is("coins()", x.coins(), 5);
    }

    private static void splittingTakesCoins(Due due) {
        due.sentence("the coins as those of power 1, 2, .. t - 1");
        EscrowedVersions x = withSecret(0x10203040);
        Prepared.coins(x, 1, 2, 3, 4, 5, 6, 7, 8, 99);
        due.is("split(0, 3, 3)", x.split(0, 3, 3), 3);
        due.is("coins()", x.coins(), 1);
        // Byte 0 at 1 is 0x10 + 1 + 2, at 2 it is 0x10 + 1 * 2 + 2 * 4, and so on.
        due.is("share(1)", x.share(1), 0x1327334F);
        due.is("share(2)", x.share(2), 0x1A36226E);
    }

    private static void fieldsElementEight(Due due) {
        due.sentence("Share i (1 .. n) is .. the values of these polynomials at the field's element i.");
        EscrowedVersions x = withSecret(0);
        Prepared.coins(x, 1, 16, 32, 128);
        x.split(0, 2, 8);
        due.is("share(1)", x.share(1), 0x01102080);
        due.is("share(8)", x.share(8), 0x08801B6C);
    }

    private static void puttingTogether(Due due) {
        due.sentence("the value at 0 of the one polynomial of degree less than t");
        int[][] sets = {{1}, {8}, {1, 2}, {7, 8}, {1, 8}, {8, 1}, {6, 7, 8}, {1, 2, 3, 4, 5, 6, 7, 8},
            {8, 7, 6, 5, 4, 3, 2, 1}};
        int[] secrets = {0, -1, Integer.MIN_VALUE, 0x00FF0001};
        for (int[] set : sets) {
            for (int secret : secrets) {
                EscrowedVersions x = withSecret(secret);
                Prepared.someCoins(x, 4 * (set.length - 1));
                x.split(0, set.length, 8);
                x.lock(0);
                for (int i : set) {
                    x.give(0, i, x.share(i));
                }
                x.split(0, 1, 1);
                due.is("by " + set.length + " shares from " + set[0] + " on", x.share(1), secret);
            }
        }
        EscrowedVersions x = withSecret(0);
        Prepared.coins(x, 0, 0, 0, 0);
        x.split(0, 2, 2);
        x.lock(0);
        due.is("a share that is 0", x.give(0, 1, 0), 1);
        due.is("another that is 0", x.give(0, 2, 0), 0);
        x.split(0, 1, 1);
        due.is("the secret 0", x.share(1), 0);
    }

    private static void entriesAtMost(Due due) {
        due.sentence("LOG: at most 80 entries");
        EscrowedVersions x = Prepared.withVersions(1);
        Prepared.fillLog(x, 0, 79);
        due.is("entries()", x.entries(), 79);
        due.is("the 80th", x.split(0, 1, 1), 1);
        due.is("entries()", x.entries(), 80);
        due.is("the 81st", x.split(0, 1, 1), EscrowedVersions.FULL);
        due.is("entries()", x.entries(), 80);
    }

    private static void firstSeal(Due due) {
        due.sentence("With s the seal of the entry before (7 for the first one)");
        EscrowedVersions x = Prepared.withVersions(2);
        int first = wideMix(wideMix(wideMix(7, 1), 0), 0);
        due.is("log(0, 3)", x.log(0, 3), first);
        due.is("log(1, 3)", x.log(1, 3), wideMix(wideMix(wideMix(first, 1), 1), 1));
    }

    private static void bytesAtMost(Due due) {
        due.sentence("THE ENVELOPE is a row of at most 16 bytes");
        EscrowedVersions x = new EscrowedVersions();
        for (int k = 0; k < 15; k++) {
            x.set(k, 1);
        }
        due.is("the 16th", x.set(15, 1), true);
        due.is("the 17th", x.set(16, 1), false);
        due.is("length()", x.length(), 16);
    }

    private static void emptyAtFirst(Due due) {
        due.sentence("at first empty");
        EscrowedVersions x = new EscrowedVersions();
        due.is("length()", x.length(), 0);
        due.is("byteAt(0)", x.byteAt(0), EscrowedVersions.BAD);
    }

    private static void counterAtFirst(Due due) {
        due.sentence("The COUNTER is 0 at first. .. and the counter grows by 1");
        EscrowedVersions x = Prepared.withVersions(2);
        for (int c = 0; c < 3; c++) {
            x.wrap(9);
            due.is("the counter of wrapping " + c, number(x, 1, 2), c);
        }
        Prepared.someCoins(x, 4);
        x.rotate();
        x.wrap(9);
        due.is("the counter under another version", number(x, 1, 2), 3);
    }

    private static void lowestBytesOfTheCounter(Due due) {
        due.sentence("the two lowest bytes of c (the higher one first)");
        EscrowedVersions x = Prepared.withVersions(1);
        for (int c = 0; c <= 255; c++) {
            x.wrap(c);
        }
        due.is("byteAt(1) for 255", x.byteAt(1), 0);
        due.is("byteAt(2) for 255", x.byteAt(2), 255);
        x.wrap(256);
        due.is("byteAt(1) for 256", x.byteAt(1), 1);
        due.is("byteAt(2) for 256", x.byteAt(2), 0);
        due.is("unwrap() with counter 256", x.unwrap(), 256);
        x.wrap(257);
        due.is("byteAt(1) for 257", x.byteAt(1), 1);
        due.is("byteAt(2) for 257", x.byteAt(2), 1);
    }

    /** Secrets for which MIX(MIX(MIX(s, 2), 0), body) has edges in its two lowest bytes. */
    private static void lowestBytesOfTheLastMix(Due due) {
        due.sentence("the two lowest of MIX(MIX(MIX(s, 2), c), body) (the higher one first)");
        int[] mixes = {0, 0x000000FF, 0x0000FF00, 0x0000FFFF, 0x00010000, 0x7FFF8001, 0xFFFF0000, -1, 0x80000102};
        for (int last : mixes) {
            int body = 0x0A0B0C0D;
            int secret = unmixed(unmixed(unmixed(last, body), 0), 2);
            EscrowedVersions x = withSecret(secret);
            int p = body ^ wideMix(wideMix(secret, 0), 1);
            x.wrap(p);
            due.is("body", number(x, 3, 4), body);
            due.is("byteAt(7) of " + last, x.byteAt(7), last >> 8 & 255);
            due.is("byteAt(8) of " + last, x.byteAt(8), last & 255);
            due.is("length()", x.length(), 9);
            due.is("unwrap()", x.unwrap(), p & 0xFFFFFFFFL);
        }
    }
}
