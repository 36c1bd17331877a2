/** The boundary cases of promises 19 and 20 (log, entries), a method for each sentence. */
public final class LogEdgesTest {
    public static void main(String[] args) {
        Due due = new Due("LogEdgesTest");
        fromZero(due);
        noSuchEntry(due);
        noSuchWhat(due);
        numberOfEntries(due);
        refusedCallsWriteNothing(due);
        due.end();
    }

    private static void fromZero(Due due) {
        due.sentence("Of entry k of the log (from 0): what = 0 its kind, 1 the version, 2 the detail, 3 the seal.");
        EscrowedVersions x = Prepared.withVersions(2);
        Prepared.fillLog(x, 1, 80);
        int seal = 7;
        for (int k = 0; k < 80; k++) {
            int[] want = k < 2 ? new int[] {1, k, k} : new int[] {3, 1, 17};
            for (int what = 0; what < 3; what++) {
                due.is("log(" + k + ", " + what + ")", x.log(k, what), want[what]);
                seal = Model.mix(seal, want[what]);
            }
            due.is("log(" + k + ", 3)", x.log(k, 3), seal);
        }
    }

    private static void noSuchEntry(Due due) {
        due.sentence("log: 0 when there is no such entry");
        int[] counts = {0, 1, 2, 79, 80};
        for (int count : counts) {
            EscrowedVersions x = count == 0 ? new EscrowedVersions() : Prepared.withVersions(1);
            Prepared.fillLog(x, 0, count);
            int[] none = {-1, count, count + 1, 80, 81, Integer.MIN_VALUE, Integer.MAX_VALUE};
            for (int k : none) {
                for (int what = -1; what <= 4; what++) {
                    due.is("log(" + k + ", " + what + ") of " + count, x.log(k, what), 0);
                }
            }
            due.is("the last one's kind", x.log(count - 1, 0), count == 0 ? 0 : count == 1 ? 1 : 3);
        }
    }

    private static void noSuchWhat(Due due) {
        due.sentence("log: 0 when .. what is not 0 .. 3");
        EscrowedVersions x = Prepared.withVersions(2);
        int[] wrong = {-1, 4, 5, Integer.MIN_VALUE, Integer.MAX_VALUE};
        for (int what : wrong) {
            due.is("log(0, " + what + ")", x.log(0, what), 0);
            due.is("log(1, " + what + ")", x.log(1, what), 0);
        }
    }

    private static void numberOfEntries(Due due) {
        due.sentence("The number of entries of the log.");
        EscrowedVersions x = new EscrowedVersions();
        due.is("entries() at first", x.entries(), 0);
        Prepared.someCoins(x, 4);
        x.rotate();
        for (int k = 1; k < 80; k++) {
            due.is("entries()", x.entries(), k);
            x.split(0, 1, 1);
        }
        due.is("entries()", x.entries(), 80);
        x.split(0, 1, 1);
        due.is("entries() behind the 81st, refused", x.entries(), 80);
    }

    /** Nor do the calls for which the document names no entry. */
    private static void refusedCallsWriteNothing(Due due) {
        due.sentence("seals every change into a log (and a refused call changes nothing)");
        EscrowedVersions x = Prepared.withVersions(1);
        x.coin(1);
        x.rotate();
        x.split(0, 2, 2);
        x.split(0, 0, 0);
        x.destroy(1);
        x.lock(0);
        x.give(0, 1, 0);
        due.is("entries() behind refusals", x.entries(), 1);
        x.coin(2);
        x.wrap(3);
        x.unwrap();
        x.set(0, 7);
        x.trim(3);
        due.is("entries() behind calls that write none", x.entries(), 1);
        due.is("log(0, 3)", x.log(0, 3), Model.mix(Model.mix(Model.mix(7, 1), 0), 0));
    }
}
