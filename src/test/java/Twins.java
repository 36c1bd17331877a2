import java.util.function.Consumer;
import java.util.function.ToLongFunction;

/**
 * Makes a call on one of two scenes that are alike, and holds them against each other behind it: by what
 * they tell at once, and by what a run of further calls brings to light (the secrets, the order of the
 * coins, the counter, the digests, the given shares).
 */
final class Twins {
    private final Due due;
    private final int coins;
    private final int entries;

    Twins(Due due, int coins, int entries) {
        this.due = due;
        this.coins = coins;
        this.entries = entries;
    }

    /** The call answers as is due, and changes nothing. */
    void idle(String text, ToLongFunction<Scene> call, long want) {
        idle(text, scene -> { }, call, want);
    }

    /** As above, on scenes that were changed before. */
    void idle(String text, Consumer<Scene> before, ToLongFunction<Scene> call, long want) {
        Scene called = new Scene(coins, entries);
        Scene spared = new Scene(coins, entries);
        before.accept(called);
        before.accept(spared);
        due.is(text, call.applyAsLong(called), want);
        due.is(text + " left what is told as it was", told(called).equals(told(spared)), true);
        due.is(text + " left what is kept as it was", kept(called).equals(kept(spared)), true);
    }

    private static String told(Scene scene) {
        return Prepared.state(scene.x);
    }

    private static String kept(Scene scene) {
        StringBuilder text = new StringBuilder();
        envelope(scene, text);
        locked(scene, text);
        escrowed(scene, text);
        coins(scene, text);
        return text.append(' ').append(told(scene)).toString();
    }

    private static void envelope(Scene scene, StringBuilder text) {
        EscrowedVersions x = scene.x;
        text.append(" unwrap ").append(x.unwrap()).append(" wrap ").append(x.wrap(12));
        for (int k = 0; k < 9; k++) {
            text.append(' ').append(x.byteAt(k));
        }
        text.append(" unwrap ").append(x.unwrap());
    }

    private static void locked(Scene scene, StringBuilder text) {
        EscrowedVersions x = scene.x;
        text.append(" give ").append(x.give(Scene.LOCKED, 5, scene.lockedShares[5]));
        text.append(" give ").append(x.give(Scene.LOCKED, 3, scene.lockedShares[3]));
        secret(scene, Scene.LOCKED, text);
    }

    private static void escrowed(Scene scene, StringBuilder text) {
        EscrowedVersions x = scene.x;
        text.append(" lock ").append(x.lock(Scene.ESCROWED));
        text.append(" give ").append(x.give(Scene.ESCROWED, 1, scene.escrowedShares[1]));
        text.append(" give ").append(x.give(Scene.ESCROWED, 3, scene.escrowedShares[3]));
        secret(scene, Scene.ESCROWED, text);
        text.append(" lock ").append(x.lock(Scene.PLAIN));
        secret(scene, Scene.PLAIN, text);
    }

    private static void coins(Scene scene, StringBuilder text) {
        EscrowedVersions x = scene.x;
        x.coin(77);
        text.append(" rotate ").append(x.rotate());
        secret(scene, x.versions() - 1, text);
        text.append(" split ").append(x.split(Scene.PLAIN, 8, 8));
    }

    private static void secret(Scene scene, int v, StringBuilder text) {
        text.append(" split ").append(scene.x.split(v, 1, 1)).append(" share ").append(scene.x.share(1));
    }
}
