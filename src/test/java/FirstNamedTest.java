import java.util.function.ToLongFunction;

/**
 * "Where several refusals that a call names fit, the one named first is the answer.": for each call, each
 * two refusals that can fit at once. A row's text tells them in the order in which the document does.
 */
public final class FirstNamedTest {
    private final Due due;
    private final int coins;
    private final int entries;

    private FirstNamedTest(Due due, int coins, int entries) {
        this.due = due;
        this.coins = coins;
        this.entries = entries;
    }

    public static void main(String[] args) {
        Due due = new Due("FirstNamedTest");
        due.sentence("Where several refusals that a call names fit, the one named first is the answer.");
        FirstNamedTest room = new FirstNamedTest(due, 3, 20);
        FirstNamedTest full = new FirstNamedTest(due, 3, 80);
        room.rotations();
        full.rotationsInFull();
        full.destructions();
        room.splittings();
        full.splittingsInFull();
        room.lockings();
        full.lockingsInFull();
        room.gifts();
        full.giftsInFull();
        new FirstNamedTest(due, 3, 78).giftsWithRoomForOne();
        room.unwrappings();
        due.end();
    }

    private void first(String text, ToLongFunction<Scene> call, long want) {
        due.is(text, call.applyAsLong(new Scene(coins, entries)), want);
    }

    private void rotations() {
        first("rotate(): FULL by eight versions, COINS", s -> {
            Prepared.someCoins(s.x, 5);
            s.x.rotate();
            s.x.rotate();
            return s.x.versions() == 8 && s.x.coins() == 0 ? s.x.rotate() : 0;
        }, EscrowedVersions.FULL);
    }

    private void rotationsInFull() {
        first("rotate(): FULL by the log, COINS", s -> s.x.rotate(), EscrowedVersions.FULL);
    }

    private void destructions() {
        first("destroy: BAD, FULL", s -> s.x.destroy(Scene.NONE), EscrowedVersions.BAD);
        first("destroy: GONE, FULL", s -> s.x.destroy(Scene.GONE), EscrowedVersions.GONE);
    }

    private void splittings() {
        first("split: BAD by t = 0, GONE", s -> s.x.split(Scene.GONE, 0, 1), EscrowedVersions.BAD);
        first("split: BAD by t > n, GONE", s -> s.x.split(Scene.GONE, 2, 1), EscrowedVersions.BAD);
        first("split: BAD by n = 9, GONE", s -> s.x.split(Scene.GONE, 1, 9), EscrowedVersions.BAD);
        first("split: BAD by t = 0, LOCKED", s -> s.x.split(Scene.LOCKED, 0, 1), EscrowedVersions.BAD);
        first("split: BAD by t > n, LOCKED", s -> s.x.split(Scene.LOCKED, 2, 1), EscrowedVersions.BAD);
        first("split: BAD by n = 9, LOCKED", s -> s.x.split(Scene.LOCKED, 1, 9), EscrowedVersions.BAD);
        first("split: BAD by v, COINS", s -> s.x.split(Scene.NONE, 2, 2), EscrowedVersions.BAD);
        first("split: BAD by t > n, COINS", s -> s.x.split(Scene.PLAIN, 3, 2), EscrowedVersions.BAD);
        first("split: BAD by n = 9, COINS", s -> s.x.split(Scene.PLAIN, 9, 9), EscrowedVersions.BAD);
        first("split: GONE, COINS", s -> s.x.split(Scene.GONE, 2, 2), EscrowedVersions.GONE);
        first("split: LOCKED, COINS", s -> s.x.split(Scene.LOCKED, 2, 2), EscrowedVersions.LOCKED);
    }

    private void splittingsInFull() {
        first("split: BAD by v, FULL", s -> s.x.split(Scene.NONE, 1, 1), EscrowedVersions.BAD);
        first("split: BAD by t = 0, FULL", s -> s.x.split(Scene.PLAIN, 0, 1), EscrowedVersions.BAD);
        first("split: BAD by t > n, FULL", s -> s.x.split(Scene.PLAIN, 2, 1), EscrowedVersions.BAD);
        first("split: BAD by n = 9, FULL", s -> s.x.split(Scene.PLAIN, 1, 9), EscrowedVersions.BAD);
        first("split: GONE, FULL", s -> s.x.split(Scene.GONE, 1, 1), EscrowedVersions.GONE);
        first("split: LOCKED, FULL", s -> s.x.split(Scene.LOCKED, 1, 1), EscrowedVersions.LOCKED);
        first("split: FULL, COINS", s -> s.x.split(Scene.PLAIN, 2, 2), EscrowedVersions.FULL);
    }

    private void lockings() {
        first("lock: GONE, STATE", s -> s.x.lock(Scene.GONE), EscrowedVersions.GONE);
    }

    private void lockingsInFull() {
        first("lock: BAD, FULL", s -> s.x.lock(Scene.NONE), EscrowedVersions.BAD);
        first("lock: GONE, STATE, FULL", s -> s.x.lock(Scene.GONE), EscrowedVersions.GONE);
        first("lock: LOCKED, FULL", s -> s.x.lock(Scene.LOCKED), EscrowedVersions.LOCKED);
        first("lock: STATE, FULL", s -> s.x.lock(Scene.PLAIN), EscrowedVersions.STATE);
    }

    private void gifts() {
        first("give: BAD, FORGED", s -> s.x.give(Scene.NONE, 9, 0), EscrowedVersions.BAD);
        first("give: GONE, STATE", s -> s.x.give(Scene.GONE, 1, 0), EscrowedVersions.GONE);
        first("give: GONE, STATE, FORGED", s -> s.x.give(Scene.GONE, 9, 0), EscrowedVersions.GONE);
        first("give: STATE, FORGED by i", s -> s.x.give(Scene.ESCROWED, 4, 0), EscrowedVersions.STATE);
        first("give: STATE, FORGED by the share", s -> s.x.give(Scene.ESCROWED, 1, 0), EscrowedVersions.STATE);
        first("give: STATE, FORGED, no escrow", s -> s.x.give(Scene.PLAIN, 1, 0), EscrowedVersions.STATE);
    }

    private void giftsInFull() {
        first("give: BAD, FULL", s -> s.x.give(Scene.NONE, 1, 0), EscrowedVersions.BAD);
        first("give: GONE, FULL", s -> s.x.give(Scene.GONE, 1, 0), EscrowedVersions.GONE);
        first("give: STATE, FULL",
                s -> s.x.give(Scene.ESCROWED, 1, s.escrowedShares[1]), EscrowedVersions.STATE);
        first("give: FORGED by i = 0, FULL", s -> s.x.give(Scene.LOCKED, 0, 0), EscrowedVersions.FORGED);
        first("give: FORGED by i = 6, FULL", s -> s.x.give(Scene.LOCKED, 6, 0), EscrowedVersions.FORGED);
        first("give: FORGED by the share, FULL", s -> s.x.give(Scene.LOCKED, 1, 0), EscrowedVersions.FORGED);
        first("give: FORGED, given before", s -> s.x.give(Scene.LOCKED, 2, 0), EscrowedVersions.FORGED);
    }

    private void giftsWithRoomForOne() {
        first("give: FORGED, FULL by the second entry", s -> {
            s.x.give(Scene.LOCKED, 1, s.lockedShares[1]);
            return s.x.give(Scene.LOCKED, 3, 0);
        }, EscrowedVersions.FORGED);
    }

    private void unwrappings() {
        int[] lengths = {8, 10};
        for (int length : lengths) {
            int shape = EscrowedVersions.SHAPE;
            first("unwrap(): SHAPE, BAD", s -> unwrap(s, Scene.NONE, length), shape);
            first("unwrap(): SHAPE, GONE", s -> unwrap(s, Scene.GONE, length), shape);
            first("unwrap(): SHAPE, LOCKED", s -> unwrap(s, Scene.LOCKED, length), shape);
            first("unwrap(): SHAPE, FORGED", s -> unwrap(s, Scene.PLAIN, length), shape);
        }
        first("unwrap(): BAD, FORGED", s -> unwrap(s, Scene.NONE, 9), EscrowedVersions.BAD);
        first("unwrap(): GONE, FORGED", s -> unwrap(s, Scene.GONE, 9), EscrowedVersions.GONE);
        first("unwrap(): LOCKED, FORGED", s -> unwrap(s, Scene.LOCKED, 9), EscrowedVersions.LOCKED);
        first("unwrap(): FORGED", s -> unwrap(s, Scene.PLAIN, 9), EscrowedVersions.FORGED);
    }

    /** Unwraps the scene's envelope as one of another version and another length. */
    private static long unwrap(Scene scene, int v, int length) {
        scene.x.set(0, v);
        scene.x.set(9, 0);
        scene.x.trim(length);
        return scene.x.unwrap();
    }
}
