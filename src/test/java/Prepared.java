/** Objects in states that many tests begin with. */
final class Prepared {
    private Prepared() {
    }

    /** Puts the given bytes behind the coins. */
    static void coins(EscrowedVersions x, int... bytes) {
        for (int b : bytes) {
            x.coin(b);
        }
    }

    /** Puts so many coins behind the coins, no two neighbours alike. */
    static void someCoins(EscrowedVersions x, int many) {
        for (int k = 0; k < many; k++) {
            x.coin((k * 37 + 11) & 255);
        }
    }

    /** An object with so many versions and no coins; version v has the secret secret(v). */
    static EscrowedVersions withVersions(int many) {
        EscrowedVersions x = new EscrowedVersions();
        for (int v = 0; v < many; v++) {
            coins(x, 0x91 + v, 0x02, 0xF3, 0x40 + v);
            x.rotate();
        }
        return x;
    }

    /** The secret of version v of withVersions. */
    static int secret(int v) {
        return (0x91 + v) << 24 | 0x02 << 16 | 0xF3 << 8 | (0x40 + v);
    }

    /** Splits version v by 1 and 1, which needs no coins, until the log has so many entries. */
    static void fillLog(EscrowedVersions x, int v, int entries) {
        int missing = entries - x.entries();
        for (int k = 0; k < missing; k++) {
            x.split(v, 1, 1);
        }
    }

    /** Everything that the object's public face tells, but for older log entries (the last seal tells of them). */
    static String state(EscrowedVersions x) {
        StringBuilder text = new StringBuilder();
        text.append("coins ").append(x.coins()).append(" envelope");
        for (int k = 0; k < x.length(); k++) {
            text.append(' ').append(x.byteAt(k));
        }
        for (int v = 0; v < x.versions(); v++) {
            text.append(" version ").append(v);
            for (int what = 0; what < 4; what++) {
                text.append(' ').append(x.version(v, what));
            }
        }
        text.append(" shares");
        for (int i = 1; i <= 8; i++) {
            text.append(' ').append(x.share(i));
        }
        text.append(" entries ").append(x.entries());
        for (int what = 0; what < 4; what++) {
            text.append(' ').append(x.log(x.entries() - 1, what));
        }
        return text.toString();
    }
}
