/** Promises 13 to 16: set, trim, byteAt, length. */
public final class EnvelopeTest {
    public static void main(String[] args) {
        Due due = new Due("EnvelopeTest");
        grows(due);
        trims(due);
        wrongNumbers(due);
        due.end();
    }

    private static void grows(Due due) {
        EscrowedVersions x = new EscrowedVersions();
        for (int k = 0; k < 16; k++) {
            due.is("set beyond the end " + (k + 1), x.set(k + 1, 5), false);
            due.is("byteAt(" + k + ") before", x.byteAt(k), EscrowedVersions.BAD);
            due.is("set(" + k + ")", x.set(k, 255 - k), true);
            due.is("length()", x.length(), k + 1);
            due.is("byteAt(" + k + ")", x.byteAt(k), 255 - k);
        }
        due.is("set(16, 1)", x.set(16, 1), false);
        due.is("set(17, 1)", x.set(17, 1), false);
        due.is("length()", x.length(), 16);
        due.is("byteAt(16)", x.byteAt(16), EscrowedVersions.BAD);
        due.is("set(15, 0)", x.set(15, 0), true);
        due.is("set(0, 7)", x.set(0, 7), true);
        due.is("length() behind changes", x.length(), 16);
        due.is("byteAt(15)", x.byteAt(15), 0);
        due.is("byteAt(0)", x.byteAt(0), 7);
        due.is("byteAt(1)", x.byteAt(1), 254);
        due.is("entries()", x.entries(), 0);
    }

    private static void trims(Due due) {
        EscrowedVersions x = new EscrowedVersions();
        due.is("trim(0) of none", x.trim(0), true);
        due.is("trim(1) of none", x.trim(1), false);
        for (int k = 0; k < 6; k++) {
            x.set(k, 10 + k);
        }
        due.is("trim(6)", x.trim(6), true);
        due.is("length()", x.length(), 6);
        due.is("trim(7)", x.trim(7), false);
        due.is("trim(4)", x.trim(4), true);
        due.is("length()", x.length(), 4);
        due.is("byteAt(3)", x.byteAt(3), 13);
        due.is("byteAt(4)", x.byteAt(4), EscrowedVersions.BAD);
        due.is("trim(5)", x.trim(5), false);
        due.is("set(5, 1)", x.set(5, 1), false);
        due.is("set(4, 99)", x.set(4, 99), true);
        due.is("byteAt(4)", x.byteAt(4), 99);
        due.is("byteAt(5)", x.byteAt(5), EscrowedVersions.BAD);
        due.is("trim(0)", x.trim(0), true);
        due.is("length()", x.length(), 0);
        due.is("byteAt(0)", x.byteAt(0), EscrowedVersions.BAD);
    }

    private static void wrongNumbers(Due due) {
        EscrowedVersions x = new EscrowedVersions();
        x.set(0, 1);
        x.set(1, 2);
        int[] wrongBytes = {-1, 256, Integer.MIN_VALUE, Integer.MAX_VALUE};
        for (int b : wrongBytes) {
            due.is("set(1, " + b + ")", x.set(1, b), false);
            due.is("set(2, " + b + ")", x.set(2, b), false);
        }
        int[] wrongPlaces = {-1, 3, 16, Integer.MIN_VALUE, Integer.MAX_VALUE};
        for (int k : wrongPlaces) {
            due.is("set(" + k + ", 1)", x.set(k, 1), false);
            due.is("trim(" + k + ")", x.trim(k), false);
            due.is("byteAt(" + k + ")", x.byteAt(k), EscrowedVersions.BAD);
        }
        due.is("length()", x.length(), 2);
        due.is("byteAt(0)", x.byteAt(0), 1);
        due.is("byteAt(1)", x.byteAt(1), 2);
    }
}
