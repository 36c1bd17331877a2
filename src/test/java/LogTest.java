/** Promises 19 and 20: log, entries. */
public final class LogTest {
    public static void main(String[] args) {
        Due due = new Due("LogTest");
        everyKind(due);
        fullLog(due);
        knownSeals(due);
        due.end();
    }

    private static void everyKind(Due due) {
        EscrowedVersions x = Prepared.withVersions(2);
        Prepared.someCoins(x, 4);
        x.split(0, 2, 7);
        x.lock(0);
        x.give(0, 7, x.share(7));
        x.give(0, 6, x.share(6));
        x.destroy(1);
        int[][] want = {{1, 0, 0}, {1, 1, 1}, {3, 0, 39}, {4, 0, 0}, {5, 0, 7}, {5, 0, 6}, {6, 0, 2}, {2, 1, 1}};
        due.is("entries()", x.entries(), want.length);
        int seal = 7;
        for (int k = 0; k < want.length; k++) {
            for (int what = 0; what < 3; what++) {
                due.is("log(" + k + ", " + what + ")", x.log(k, what), want[k][what]);
                seal = Model.mix(seal, want[k][what]);
            }
            due.is("log(" + k + ", 3)", x.log(k, 3), seal);
            due.is("log(" + k + ", -1)", x.log(k, -1), 0);
            due.is("log(" + k + ", 4)", x.log(k, 4), 0);
            due.is("log(" + k + ", least)", x.log(k, Integer.MIN_VALUE), 0);
            due.is("log(" + k + ", greatest)", x.log(k, Integer.MAX_VALUE), 0);
        }
        int[] none = {-1, want.length, 79, 80, Integer.MIN_VALUE, Integer.MAX_VALUE};
        for (int k : none) {
            for (int what = -1; what <= 4; what++) {
                due.is("log(" + k + ", " + what + ")", x.log(k, what), 0);
            }
        }
    }

    private static void fullLog(Due due) {
        EscrowedVersions x = Prepared.withVersions(1);
        int seal = Model.mix(Model.mix(Model.mix(7, 1), 0), 0);
        for (int k = 1; k < 80; k++) {
            due.is("entries()", x.entries(), k);
            due.is("split(0, 1, 8)", x.split(0, 1, 8), 8);
            seal = Model.mix(Model.mix(Model.mix(seal, 3), 0), 24);
            due.is("log(" + k + ", 3)", x.log(k, 3), seal);
        }
        due.is("entries()", x.entries(), 80);
        due.is("split(0, 1, 8) with a full log", x.split(0, 1, 8), EscrowedVersions.FULL);
        due.is("entries()", x.entries(), 80);
        due.is("log(79, 3)", x.log(79, 3), seal);
        due.is("log(80, 3)", x.log(80, 3), 0);
    }

    private static void knownSeals(Due due) {
        EscrowedVersions x = new EscrowedVersions();
        Prepared.coins(x, 1, 2, 3, 4, 5, 6, 7, 8);
        x.rotate();
        x.split(0, 2, 3);
        x.lock(0);
        due.is("log(0, 3)", x.log(0, 3), 1793019144);
        due.is("log(2, 3)", x.log(2, 3), -242146133);
    }
}
