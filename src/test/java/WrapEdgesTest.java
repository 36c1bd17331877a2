/** The boundary cases of promises 11 and 12 (wrap, unwrap), a method for each sentence. */
public final class WrapEdgesTest {
    private static final int[] NUMBERS = {0, 1, -1, Integer.MAX_VALUE, Integer.MIN_VALUE, 255, 256, -256};

    public static void main(String[] args) {
        Due due = new Due("WrapEdgesTest");
        underTheActive(due);
        becomesNineBytes(due);
        noneActive(due);
        activeLocked(due);
        unsigned(due);
        anyCounter(due);
        anyVersion(due);
        notNineBytes(due);
        noVersion(due);
        gone(due);
        locked(due);
        otherLastBytes(due);
        due.end();
    }

    private static void underTheActive(Due due) {
        due.sentence("Wraps p under the ACTIVE version and answers that version.");
        EscrowedVersions x = new EscrowedVersions();
        for (int v = 0; v < 8; v++) {
            Prepared.coins(x, 1, 2, 3, v);
            x.rotate();
            due.is("wrap(" + v + ")", x.wrap(v), v);
            due.is("byteAt(0)", x.byteAt(0), v);
        }
        due.is("entries()", x.entries(), 8);
    }

    private static void becomesNineBytes(Due due) {
        due.sentence("the envelope becomes nine bytes");
        for (int length = 0; length <= 16; length++) {
            EscrowedVersions x = Prepared.withVersions(1);
            for (int k = 0; k < length; k++) {
                x.set(k, 200);
            }
            x.wrap(6);
            due.is("length(), it being " + length + " before", x.length(), 9);
            due.is("byteAt(9)", x.byteAt(9), EscrowedVersions.BAD);
            due.is("unwrap()", x.unwrap(), 6);
        }
    }

    private static void noneActive(Due due) {
        due.sentence("wrap: STATE when none is ACTIVE");
        EscrowedVersions x = new EscrowedVersions();
        due.is("wrap(1) at first", x.wrap(1), EscrowedVersions.STATE);
        x = Prepared.withVersions(2);
        x.wrap(1);
        x.destroy(1);
        String before = Prepared.state(x);
        due.is("wrap(2), a RETIRED one being left", x.wrap(2), EscrowedVersions.STATE);
        due.unchanged(before, x);
        x.destroy(0);
        due.is("wrap(2), all being DESTROYED", x.wrap(2), EscrowedVersions.STATE);
        Prepared.someCoins(x, 4);
        x.rotate();
        due.is("wrap(2) under a new one", x.wrap(2), 2);
        due.is("the counter, which no refusal moved", x.byteAt(2), 1);
    }

    private static void activeLocked(Due due) {
        due.sentence("wrap: LOCKED when it is");
        EscrowedVersions x = Prepared.withVersions(2);
        x.split(1, 1, 1);
        x.wrap(1);
        x.lock(1);
        String before = Prepared.state(x);
        due.is("wrap(2)", x.wrap(2), EscrowedVersions.LOCKED);
        due.unchanged(before, x);
        x.give(1, 1, x.share(1));
        due.is("wrap(2) behind the opening", x.wrap(2), 1);
        due.is("the counter, which no refusal moved", x.byteAt(2), 1);
        x.split(0, 1, 1);
        x.lock(0);
        due.is("wrap(3), a RETIRED one being LOCKED", x.wrap(3), 1);
    }

    private static void unsigned(Due due) {
        due.sentence("The number in the envelope, as 0 .. 2^32 - 1");
        EscrowedVersions x = Prepared.withVersions(1);
        long[] want = {0, 1, 4294967295L, 2147483647L, 2147483648L, 255, 256, 4294967040L};
        for (int k = 0; k < NUMBERS.length; k++) {
            x.wrap(NUMBERS[k]);
            due.is("unwrap() of " + NUMBERS[k], x.unwrap(), want[k]);
        }
    }

    /** Writes the envelope of p under version v of Prepared's, with a counter that wrap itself may never reach. */
    private static void write(EscrowedVersions x, int v, int c, int p) {
        int s = Prepared.secret(v);
        int body = p ^ Model.pad(s, c);
        int last = Model.tag(s, c, body);
        int[] bytes = {v, c >> 8, c & 255, body >>> 24, body >> 16 & 255, body >> 8 & 255, body & 255,
            last >> 8, last & 255};
        x.trim(0);
        for (int k = 0; k < 9; k++) {
            x.set(k, bytes[k]);
        }
    }

    private static void anyCounter(Due due) {
        due.sentence("c and body and the last two bytes as they were written by wrapping (c 0 .. 65535)");
        EscrowedVersions x = Prepared.withVersions(1);
        int[] counters = {0, 1, 127, 128, 255, 256, 32767, 32768, 65280, 65535};
        for (int c : counters) {
            write(x, 0, c, -2);
            due.is("unwrap() with c = " + c, x.unwrap(), 4294967294L);
        }
    }

    private static void anyVersion(Due due) {
        due.sentence("with v its first byte, s the secret of version v");
        EscrowedVersions x = Prepared.withVersions(8);
        for (int v = 0; v < 8; v++) {
            write(x, v, 40000, 100 + v);
            due.is("unwrap() under " + v, x.unwrap(), 100 + v);
        }
    }

    private static void notNineBytes(Due due) {
        due.sentence("unwrap: SHAPE (The envelope does not have nine bytes.)");
        for (int length = 0; length <= 16; length++) {
            EscrowedVersions x = Prepared.withVersions(1);
            x.wrap(21);
            for (int k = 9; k < length; k++) {
                x.set(k, 0);
            }
            x.trim(length);
            long want = length == 9 ? 21 : EscrowedVersions.SHAPE;
            due.is("unwrap() of " + length + " bytes", x.unwrap(), want);
        }
    }

    private static void noVersion(Due due) {
        due.sentence("unwrap: BAD when there is no version v");
        for (int many = 1; many <= 8; many += 7) {
            EscrowedVersions x = Prepared.withVersions(many);
            x.wrap(21);
            int[] none = {many, 8, 127, 128, 255};
            for (int v : none) {
                x.set(0, v);
                due.is("unwrap() under " + v + " of " + many, x.unwrap(), EscrowedVersions.BAD);
            }
            x.set(0, many - 1);
            due.is("unwrap() under the last of " + many, x.unwrap(), 21);
        }
        EscrowedVersions empty = new EscrowedVersions();
        for (int k = 0; k < 9; k++) {
            empty.set(k, 0);
        }
        due.is("unwrap() without versions", empty.unwrap(), EscrowedVersions.BAD);
    }

    private static void gone(Due due) {
        due.sentence("unwrap: GONE");
        EscrowedVersions x = Prepared.withVersions(2);
        x.wrap(1);
        x.destroy(0);
        due.is("unwrap(), another being DESTROYED", x.unwrap(), 1);
        x.destroy(1);
        due.is("unwrap()", x.unwrap(), EscrowedVersions.GONE);
    }

    private static void locked(Due due) {
        due.sentence("unwrap: LOCKED");
        EscrowedVersions x = Prepared.withVersions(2);
        Prepared.someCoins(x, 4);
        x.wrap(1);
        x.split(1, 2, 2);
        due.is("unwrap() before", x.unwrap(), 1);
        x.lock(1);
        due.is("unwrap()", x.unwrap(), EscrowedVersions.LOCKED);
        x.give(1, 1, x.share(1));
        due.is("unwrap(), one share being needed", x.unwrap(), EscrowedVersions.LOCKED);
        x.give(1, 2, x.share(2));
        due.is("unwrap() behind the opening", x.unwrap(), 1);
    }

    private static void otherLastBytes(Due due) {
        due.sentence("FORGED when the last two bytes are not the lowest of MIX(MIX(MIX(s, 2), c), body)");
        EscrowedVersions x = Prepared.withVersions(2);
        x.wrap(31);
        for (int k = 7; k <= 8; k++) {
            int right = x.byteAt(k);
            int[] wrong = {right ^ 1, right ^ 128, right ^ 255, right + 1 & 255};
            for (int b : wrong) {
                x.set(k, b);
                due.is("unwrap() with byte " + k + " = " + b, x.unwrap(), EscrowedVersions.FORGED);
            }
            x.set(k, right);
        }
        int[] others = {1, 2, 3, 4, 5, 6};
        for (int k : others) {
            int right = x.byteAt(k);
            x.set(k, right ^ 1);
            due.is("unwrap() with another byte " + k, x.unwrap(), EscrowedVersions.FORGED);
            x.set(k, right);
        }
        due.is("unwrap() of the right bytes", x.unwrap(), 31);
        x.set(0, 0);
        due.is("unwrap() under the other version", x.unwrap(), EscrowedVersions.FORGED);
    }
}
