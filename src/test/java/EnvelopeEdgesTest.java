/** The boundary cases of promises 13 to 16 (set, trim, byteAt, length), a method for each sentence. */
public final class EnvelopeEdgesTest {
    private static final int[] LENGTHS = {0, 1, 8, 9, 15, 16};

    public static void main(String[] args) {
        Due due = new Due("EnvelopeEdgesTest");
        becomesB(due);
        behindTheLast(due);
        noSuchPlace(due);
        noBytes(due);
        moreThanSixteen(due);
        onlyTheFirstStay(due);
        noSuchLength(due);
        bytes(due);
        noSuchByte(due);
        numberOfBytes(due);
        due.end();
    }

    /** An object whose envelope has the bytes 100, 101 and so on. */
    private static EscrowedVersions ofLength(int length) {
        EscrowedVersions x = new EscrowedVersions();
        for (int k = 0; k < length; k++) {
            x.set(k, 100 + k);
        }
        return x;
    }

    private static void is(Due due, EscrowedVersions x, int length) {
        due.is("length()", x.length(), length);
        for (int k = 0; k < length; k++) {
            due.is("byteAt(" + k + ")", x.byteAt(k), 100 + k);
        }
        due.is("byteAt(" + length + ")", x.byteAt(length), EscrowedVersions.BAD);
    }

    private static void becomesB(Due due) {
        due.sentence("Byte k of the envelope becomes b");
        EscrowedVersions x = ofLength(16);
        due.is("set(0, 0)", x.set(0, 0), true);
        due.is("set(15, 255)", x.set(15, 255), true);
        due.is("byteAt(0)", x.byteAt(0), 0);
        due.is("byteAt(1)", x.byteAt(1), 101);
        due.is("byteAt(14)", x.byteAt(14), 114);
        due.is("byteAt(15)", x.byteAt(15), 255);
        due.is("length()", x.length(), 16);
    }

    private static void behindTheLast(Due due) {
        due.sentence("or, for k its length, b is put behind its last byte");
        EscrowedVersions x = new EscrowedVersions();
        for (int k = 0; k < 16; k++) {
            due.is("set(" + k + ", " + (100 + k) + ")", x.set(k, 100 + k), true);
            is(due, x, k + 1);
        }
    }

    private static void noSuchPlace(Due due) {
        due.sentence("False, refused, when k is not 0 .. its length");
        for (int length : LENGTHS) {
            EscrowedVersions x = ofLength(length);
            int[] none = {-1, length + 1, 17, Integer.MIN_VALUE, Integer.MAX_VALUE};
            for (int k : none) {
                due.is("set(" + k + ", 1) of " + length, x.set(k, 1), false);
            }
            is(due, x, length);
        }
    }

    private static void noBytes(Due due) {
        due.sentence("False, refused, when .. b not 0 .. 255");
        EscrowedVersions x = ofLength(5);
        int[] wrong = {-1, 256, -256, 257, Integer.MIN_VALUE, Integer.MAX_VALUE};
        for (int b : wrong) {
            due.is("set(0, " + b + ")", x.set(0, b), false);
            due.is("set(4, " + b + ")", x.set(4, b), false);
            due.is("set(5, " + b + ")", x.set(5, b), false);
        }
        is(due, x, 5);
    }

    private static void moreThanSixteen(Due due) {
        due.sentence("False, refused, when .. it would have more than 16 bytes");
        EscrowedVersions x = ofLength(16);
        due.is("set(16, 1)", x.set(16, 1), false);
        due.is("set(16, 256)", x.set(16, 256), false);
        is(due, x, 16);
        x.trim(15);
        due.is("set(15, 115)", x.set(15, 115), true);
        is(due, x, 16);
    }

    private static void onlyTheFirstStay(Due due) {
        due.sentence("Only the first n bytes of the envelope stay");
        for (int n = 16; n >= 0; n--) {
            EscrowedVersions x = ofLength(16);
            due.is("trim(" + n + ")", x.trim(n), true);
            is(due, x, n);
            due.is("trim(" + n + ") again", x.trim(n), true);
            is(due, x, n);
        }
        EscrowedVersions x = ofLength(16);
        x.trim(2);
        x.set(2, 102);
        is(due, x, 3);
    }

    private static void noSuchLength(Due due) {
        due.sentence("trim: false, refused, when n is not 0 .. its length");
        for (int length : LENGTHS) {
            EscrowedVersions x = ofLength(length);
            int[] none = {-1, length + 1, 17, Integer.MIN_VALUE, Integer.MAX_VALUE};
            for (int n : none) {
                due.is("trim(" + n + ") of " + length, x.trim(n), false);
            }
            is(due, x, length);
            due.is("trim(" + length + ") of " + length, x.trim(length), true);
            is(due, x, length);
        }
        EscrowedVersions x = ofLength(9);
        x.trim(4);
        due.is("trim(5) of 4, which were 9", x.trim(5), false);
        is(due, x, 4);
    }

    private static void bytes(Due due) {
        due.sentence("Byte k of the envelope");
        EscrowedVersions x = ofLength(16);
        x.set(0, 0);
        x.set(15, 255);
        due.is("byteAt(0), the least", x.byteAt(0), 0);
        due.is("byteAt(15), the greatest", x.byteAt(15), 255);
    }

    private static void noSuchByte(Due due) {
        due.sentence("byteAt: BAD when there is none");
        for (int length : LENGTHS) {
            EscrowedVersions x = ofLength(length);
            int[] none = {-1, length, length + 1, 16, 17, Integer.MIN_VALUE, Integer.MAX_VALUE};
            for (int k : none) {
                due.is("byteAt(" + k + ") of " + length, x.byteAt(k), EscrowedVersions.BAD);
            }
        }
        EscrowedVersions x = ofLength(9);
        x.trim(8);
        due.is("byteAt(8), which was trimmed", x.byteAt(8), EscrowedVersions.BAD);
    }

    private static void numberOfBytes(Due due) {
        due.sentence("The number of bytes of the envelope.");
        EscrowedVersions x = new EscrowedVersions();
        for (int k = 0; k <= 16; k++) {
            due.is("length()", x.length(), k);
            x.set(k, 0);
        }
        due.is("length() behind the 17th, refused", x.length(), 16);
        x.trim(0);
        due.is("length() behind trim(0)", x.length(), 0);
    }
}
