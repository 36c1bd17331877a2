/** Promises 11 and 12: wrap, unwrap. */
public final class WrapTest {
    public static void main(String[] args) {
        Due due = new Due("WrapTest");
        knownEnvelope(due);
        numbersThereAndBack(due);
        counterOfTwoBytes(due);
        counterStands(due);
        underTheActive(due);
        anyCounter(due);
        forged(due);
        refusals(due);
        due.end();
    }

    private static void knownEnvelope(Due due) {
        EscrowedVersions x = new EscrowedVersions();
        Prepared.coins(x, 1, 2, 3, 4);
        x.rotate();
        due.is("wrap(305419896)", x.wrap(305419896), 0);
        due.is("length()", x.length(), 9);
        due.is("byteAt(3)", x.byteAt(3), 153);
        holds(due, x, 0, 0x01020304, 0, 305419896);
        due.is("unwrap()", x.unwrap(), 305419896);
        due.is("entries()", x.entries(), 1);
    }

    /** The nine bytes are those of p under version v with secret s, the counter being c. */
    private static void holds(Due due, EscrowedVersions x, int v, int s, int c, int p) {
        int body = p ^ Model.pad(s, c);
        int end = Model.tag(s, c, body);
        int[] want = {v, c >> 8 & 255, c & 255, body >>> 24, body >> 16 & 255, body >> 8 & 255, body & 255,
            end >> 8, end & 255};
        for (int k = 0; k < 9; k++) {
            due.is("byteAt(" + k + ") of " + p + " under " + v, x.byteAt(k), want[k]);
        }
        due.is("byteAt(9)", x.byteAt(9), EscrowedVersions.BAD);
    }

    private static void numbersThereAndBack(Due due) {
        EscrowedVersions x = Prepared.withVersions(3);
        int[] numbers = {0, 1, -1, 255, 65536, Integer.MAX_VALUE, Integer.MIN_VALUE, -559038737};
        for (int k = 0; k < numbers.length; k++) {
            due.is("wrap(" + numbers[k] + ")", x.wrap(numbers[k]), 2);
            holds(due, x, 2, Prepared.secret(2), k, numbers[k]);
            due.is("unwrap()", x.unwrap(), numbers[k] & 0xFFFFFFFFL);
            due.is("unwrap() again", x.unwrap(), numbers[k] & 0xFFFFFFFFL);
        }
    }

    private static void counterOfTwoBytes(Due due) {
        EscrowedVersions x = Prepared.withVersions(1);
        for (int c = 0; c < 258; c++) {
            x.wrap(c);
        }
        holds(due, x, 0, Prepared.secret(0), 257, 257);
        due.is("unwrap()", x.unwrap(), 257);
    }

    /** What is refused leaves the counter alone, and so do all calls but wrap. */
    private static void counterStands(Due due) {
        EscrowedVersions x = new EscrowedVersions();
        due.is("wrap(1) without a version", x.wrap(1), EscrowedVersions.STATE);
        Prepared.coins(x, 1, 2, 3, 4, 5, 6, 7, 8);
        x.rotate();
        x.split(0, 1, 1);
        x.lock(0);
        due.is("wrap(1) under a LOCKED one", x.wrap(1), EscrowedVersions.LOCKED);
        due.is("length()", x.length(), 0);
        x.give(0, 1, x.share(1));
        x.wrap(9);
        holds(due, x, 0, 0x01020304, 0, 9);
        x.unwrap();
        x.trim(0);
        x.rotate();
        x.wrap(10);
        holds(due, x, 1, 0x05060708, 1, 10);
    }

    private static void underTheActive(Due due) {
        EscrowedVersions x = Prepared.withVersions(2);
        due.is("wrap(41)", x.wrap(41), 1);
        Prepared.coins(x, 3, 3, 3, 3);
        x.rotate();
        due.is("unwrap() under a RETIRED one", x.unwrap(), 41);
        due.is("wrap(42)", x.wrap(42), 2);
        due.is("unwrap()", x.unwrap(), 42);
        for (int k = x.length(); k < 16; k++) {
            x.set(k, 1);
        }
        due.is("wrap(43) over a longer envelope", x.wrap(43), 2);
        due.is("length()", x.length(), 9);
        x.trim(2);
        due.is("wrap(44) over a shorter envelope", x.wrap(44), 2);
        due.is("length()", x.length(), 9);
        x.destroy(2);
        due.is("wrap(45) with none ACTIVE", x.wrap(45), EscrowedVersions.STATE);
        due.is("length()", x.length(), 9);
        x.split(1, 1, 1);
        x.lock(1);
        due.is("wrap(45) with none ACTIVE and one LOCKED", x.wrap(45), EscrowedVersions.STATE);
    }

    /** Envelopes written by hand, with counters that no run of 512 calls reaches. */
    private static void anyCounter(Due due) {
        int[] counters = {0, 255, 256, 32767, 32768, 65535};
        for (int c : counters) {
            EscrowedVersions x = Prepared.withVersions(2);
            int s = Prepared.secret(0);
            int body = -77 ^ Model.pad(s, c);
            int end = Model.tag(s, c, body);
            int[] bytes = {0, c >> 8, c & 255, body >>> 24, body >> 16 & 255, body >> 8 & 255, body & 255,
                end >> 8, end & 255};
            for (int k = 0; k < 9; k++) {
                x.set(k, bytes[k]);
            }
            due.is("unwrap() with counter " + c, x.unwrap(), -77 & 0xFFFFFFFFL);
        }
    }

    private static void forged(Due due) {
        EscrowedVersions x = Prepared.withVersions(2);
        x.wrap(1234567);
        for (int k = 1; k < 9; k++) {
            for (int bit = 0; bit < 8; bit++) {
                int b = x.byteAt(k);
                x.set(k, b ^ 1 << bit);
                // MIX carries the highest bit of body into its bits 31 and 16 alone, never into the last two bytes.
                long want = k == 3 && bit == 7 ? 1234567 ^ 1L << 31 : EscrowedVersions.FORGED;
                due.is("unwrap() with bit " + bit + " of byte " + k + " turned", x.unwrap(), want);
                x.set(k, b);
            }
        }
        due.is("unwrap()", x.unwrap(), 1234567);
        x.set(0, 0);
        due.is("unwrap() under another version", x.unwrap(), EscrowedVersions.FORGED);
    }

    private static void refusals(Due due) {
        EscrowedVersions x = Prepared.withVersions(3);
        x.split(1, 1, 1);
        x.lock(1);
        x.destroy(0);
        x.wrap(5);
        x.set(0, 3);
        due.is("BAD", x.unwrap(), EscrowedVersions.BAD);
        x.set(0, 255);
        due.is("BAD for 255", x.unwrap(), EscrowedVersions.BAD);
        x.set(0, 0);
        due.is("GONE before FORGED", x.unwrap(), EscrowedVersions.GONE);
        x.set(0, 1);
        due.is("LOCKED before FORGED", x.unwrap(), EscrowedVersions.LOCKED);
        x.set(0, 200);
        x.set(9, 0);
        due.is("SHAPE with ten bytes before BAD", x.unwrap(), EscrowedVersions.SHAPE);
        x.set(0, 2);
        due.is("SHAPE with ten bytes", x.unwrap(), EscrowedVersions.SHAPE);
        x.trim(9);
        due.is("nine bytes again", x.unwrap(), 5);
        x.trim(8);
        due.is("SHAPE with eight bytes", x.unwrap(), EscrowedVersions.SHAPE);
        x.trim(0);
        due.is("SHAPE with none", x.unwrap(), EscrowedVersions.SHAPE);
    }
}
