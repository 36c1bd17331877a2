import java.util.function.Consumer;

/** "A call that is refused changes nothing.": each refusal of each call, with what is told and what is kept behind it. */
public final class RefusedCallsTest {
    public static void main(String[] args) {
        Due due = new Due("RefusedCallsTest");
        due.sentence("A call that is refused changes nothing.");
        numbersThatNameNothing(new Twins(due, 3, 20));
        conditions(new Twins(due, 3, 20));
        envelopes(new Twins(due, 3, 20));
        unwrapping(new Twins(due, 3, 20));
        fullRows(new Twins(due, 64, 80));
        roomForOne(new Twins(due, 64, 78));
        eightVersions(new Twins(due, 40, 20));
        due.end();
    }

    private static void numbersThatNameNothing(Twins twins) {
        int bad = EscrowedVersions.BAD;
        twins.idle("coin(-1)", s -> s.x.coin(-1) ? 1 : 0, 0);
        twins.idle("coin(256)", s -> s.x.coin(256) ? 1 : 0, 0);
        twins.idle("times(256, 1)", s -> s.x.times(256, 1), bad);
        twins.idle("times(1, -1)", s -> s.x.times(1, -1), bad);
        int[] none = {-1, Scene.NONE};
        for (int v : none) {
            twins.idle("destroy(" + v + ")", s -> s.x.destroy(v), bad);
            twins.idle("split(" + v + ", 1, 1)", s -> s.x.split(v, 1, 1), bad);
            twins.idle("lock(" + v + ")", s -> s.x.lock(v), bad);
            twins.idle("give(" + v + ", 1, 0)", s -> s.x.give(v, 1, 0), bad);
            twins.idle("version(" + v + ", 0)", s -> s.x.version(v, 0), bad);
        }
        twins.idle("split with t = 0", s -> s.x.split(Scene.ESCROWED, 0, 1), bad);
        twins.idle("split with t = n + 1", s -> s.x.split(Scene.ESCROWED, 2, 1), bad);
        twins.idle("split with n = 9", s -> s.x.split(Scene.ESCROWED, 1, 9), bad);
        twins.idle("version(1, 4)", s -> s.x.version(1, 4), bad);
    }

    private static void conditions(Twins twins) {
        twins.idle("rotate() with 3 coins", s -> s.x.rotate(), EscrowedVersions.COINS);
        twins.idle("split with 3 coins", s -> s.x.split(Scene.ESCROWED, 2, 2), EscrowedVersions.COINS);
        twins.idle("destroy, GONE", s -> s.x.destroy(Scene.GONE), EscrowedVersions.GONE);
        twins.idle("split, GONE", s -> s.x.split(Scene.GONE, 1, 1), EscrowedVersions.GONE);
        twins.idle("lock, GONE", s -> s.x.lock(Scene.GONE), EscrowedVersions.GONE);
        twins.idle("give, GONE", s -> s.x.give(Scene.GONE, 1, 0), EscrowedVersions.GONE);
        twins.idle("split, LOCKED", s -> s.x.split(Scene.LOCKED, 1, 1), EscrowedVersions.LOCKED);
        twins.idle("lock, LOCKED", s -> s.x.lock(Scene.LOCKED), EscrowedVersions.LOCKED);
        twins.idle("lock, no escrow", s -> s.x.lock(Scene.PLAIN), EscrowedVersions.STATE);
        twins.idle("give, not LOCKED",
                s -> s.x.give(Scene.ESCROWED, 1, s.escrowedShares[1]), EscrowedVersions.STATE);
        twins.idle("give, no share 0", s -> s.x.give(Scene.LOCKED, 0, 0), EscrowedVersions.FORGED);
        twins.idle("give, no share 6", s -> s.x.give(Scene.LOCKED, 6, 0), EscrowedVersions.FORGED);
        twins.idle("give, another share",
                s -> s.x.give(Scene.LOCKED, 5, s.lockedShares[3]), EscrowedVersions.FORGED);
        twins.idle("give, another share for one given before",
                s -> s.x.give(Scene.LOCKED, 2, s.lockedShares[3]), EscrowedVersions.FORGED);
        twins.idle("wrap, none ACTIVE", s -> s.x.destroy(Scene.ACTIVE),
                s -> s.x.wrap(5), EscrowedVersions.STATE);
        twins.idle("wrap, LOCKED", RefusedCallsTest::lockTheActive, s -> s.x.wrap(5), EscrowedVersions.LOCKED);
    }

    private static void lockTheActive(Scene scene) {
        scene.x.split(Scene.ACTIVE, 1, 1);
        scene.x.lock(Scene.ACTIVE);
    }

    private static void envelopes(Twins twins) {
        twins.idle("set(-1, 0)", s -> s.x.set(-1, 0) ? 1 : 0, 0);
        twins.idle("set(10, 0)", s -> s.x.set(10, 0) ? 1 : 0, 0);
        twins.idle("set(0, -1)", s -> s.x.set(0, -1) ? 1 : 0, 0);
        twins.idle("set(8, 256)", s -> s.x.set(8, 256) ? 1 : 0, 0);
        twins.idle("set(9, 256)", s -> s.x.set(9, 256) ? 1 : 0, 0);
        twins.idle("set(16, 0)", RefusedCallsTest::sixteenBytes, s -> s.x.set(16, 0) ? 1 : 0, 0);
        twins.idle("trim(-1)", s -> s.x.trim(-1) ? 1 : 0, 0);
        twins.idle("trim(10)", s -> s.x.trim(10) ? 1 : 0, 0);
        twins.idle("byteAt(-1)", s -> s.x.byteAt(-1), EscrowedVersions.BAD);
        twins.idle("byteAt(9)", s -> s.x.byteAt(9), EscrowedVersions.BAD);
    }

    private static void sixteenBytes(Scene scene) {
        for (int k = 9; k < 16; k++) {
            scene.x.set(k, k);
        }
    }

    private static void unwrapping(Twins twins) {
        unwrapping(twins, "unwrap() of 8 bytes", s -> s.x.trim(8), EscrowedVersions.SHAPE);
        unwrapping(twins, "unwrap() of 10 bytes", s -> s.x.set(9, 0), EscrowedVersions.SHAPE);
        unwrapping(twins, "unwrap(), no version", s -> s.x.set(0, Scene.NONE), EscrowedVersions.BAD);
        unwrapping(twins, "unwrap(), GONE", s -> s.x.set(0, Scene.GONE), EscrowedVersions.GONE);
        unwrapping(twins, "unwrap(), LOCKED", s -> s.x.set(0, Scene.LOCKED), EscrowedVersions.LOCKED);
        unwrapping(twins, "unwrap(), FORGED", s -> s.x.set(8, s.x.byteAt(8) ^ 1), EscrowedVersions.FORGED);
    }

    private static void unwrapping(Twins twins, String text, Consumer<Scene> before, int want) {
        twins.idle(text, before, s -> s.x.unwrap(), want);
    }

    private static void fullRows(Twins twins) {
        int full = EscrowedVersions.FULL;
        twins.idle("coin(1) with 64", s -> s.x.coin(1) ? 1 : 0, 0);
        twins.idle("rotate() with a full log", s -> s.x.rotate(), full);
        twins.idle("destroy with a full log", s -> s.x.destroy(Scene.ACTIVE), full);
        twins.idle("split with a full log", s -> s.x.split(Scene.ESCROWED, 2, 3), full);
        twins.idle("lock with a full log", s -> s.x.lock(Scene.ESCROWED), full);
        twins.idle("give with a full log", s -> s.x.give(Scene.LOCKED, 5, s.lockedShares[5]), full);
    }

    /** The last share that is needed writes two entries. */
    private static void roomForOne(Twins twins) {
        twins.idle("give with room for one", s -> s.x.give(Scene.LOCKED, 1, s.lockedShares[1]),
                s -> s.x.give(Scene.LOCKED, 4, s.lockedShares[4]), EscrowedVersions.FULL);
    }

    private static void eightVersions(Twins twins) {
        twins.idle("rotate() with eight versions", s -> {
            s.x.rotate();
            s.x.rotate();
        }, s -> s.x.rotate(), EscrowedVersions.FULL);
    }
}
