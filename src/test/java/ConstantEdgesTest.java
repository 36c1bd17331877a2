/** What the document says of each constant: its value, and every call that answers it, a method for each. */
public final class ConstantEdgesTest {
    public static void main(String[] args) {
        Due due = new Due("ConstantEdgesTest");
        bad(due);
        fullOfVersions(due);
        fullLog(due);
        coins(due);
        state(due);
        shape(due);
        gone(due);
        locked(due);
        forged(due);
        due.end();
    }

    private static void bad(Due due) {
        due.sentence("BAD = -1: A number names nothing that there is, or is not as said.");
        EscrowedVersions x = new Scene(0, 20).x;
        due.is("BAD", EscrowedVersions.BAD, -1);
        due.is("times(256, 0)", x.times(256, 0), -1);
        due.is("destroy(6)", x.destroy(Scene.NONE), -1);
        due.is("split(6, 1, 1)", x.split(Scene.NONE, 1, 1), -1);
        due.is("split(3, 2, 1)", x.split(Scene.PLAIN, 2, 1), -1);
        due.is("lock(6)", x.lock(Scene.NONE), -1);
        due.is("give(6, 1, 0)", x.give(Scene.NONE, 1, 0), -1);
        due.is("byteAt(9)", x.byteAt(9), -1);
        due.is("version(6, 0)", x.version(Scene.NONE, 0), -1);
        due.is("version(0, 4)", x.version(0, 4), -1);
        x.set(0, Scene.NONE);
        due.is("unwrap()", x.unwrap(), -1);
    }

    private static void fullOfVersions(Due due) {
        due.sentence("FULL = -2: There are eight versions");
        EscrowedVersions x = Prepared.withVersions(8);
        Prepared.someCoins(x, 4);
        due.is("FULL", EscrowedVersions.FULL, -2);
        due.is("rotate()", x.rotate(), -2);
        due.is("split(7, 1, 1), which makes none", x.split(7, 1, 1), 1);
    }

    private static void fullLog(Due due) {
        due.sentence("FULL = -2: no room in the log for what the call would write there");
        Scene scene = new Scene(64, 80);
        EscrowedVersions x = scene.x;
        due.is("rotate()", x.rotate(), -2);
        due.is("destroy(3)", x.destroy(Scene.PLAIN), -2);
        due.is("split(3, 1, 1)", x.split(Scene.PLAIN, 1, 1), -2);
        due.is("lock(2)", x.lock(Scene.ESCROWED), -2);
        due.is("give(1, 1, share)", x.give(Scene.LOCKED, 1, scene.lockedShares[1]), -2);
        due.is("wrap(1), which writes nothing there", x.wrap(1), Scene.ACTIVE);
        due.is("unwrap(), which writes nothing there", x.unwrap(), 1);
    }

    private static void coins(Due due) {
        due.sentence("COINS = -3: There are not enough coins.");
        EscrowedVersions x = new Scene(3, 20).x;
        due.is("COINS", EscrowedVersions.COINS, -3);
        due.is("rotate()", x.rotate(), -3);
        due.is("split(3, 2, 2)", x.split(Scene.PLAIN, 2, 2), -3);
        x.coin(0);
        due.is("split(3, 3, 3) with 4", x.split(Scene.PLAIN, 3, 3), -3);
        due.is("split(3, 2, 2) with 4", x.split(Scene.PLAIN, 2, 2), 2);
    }

    private static void state(Due due) {
        due.sentence("STATE = -4: The state does not allow it.");
        EscrowedVersions x = new Scene(0, 20).x;
        due.is("STATE", EscrowedVersions.STATE, -4);
        due.is("lock(3)", x.lock(Scene.PLAIN), -4);
        due.is("give(3, 1, 0)", x.give(Scene.PLAIN, 1, 0), -4);
        x.destroy(Scene.ACTIVE);
        due.is("wrap(1)", x.wrap(1), -4);
    }

    private static void shape(Due due) {
        due.sentence("SHAPE = -5: The envelope does not have nine bytes.");
        EscrowedVersions x = new Scene(0, 20).x;
        due.is("SHAPE", EscrowedVersions.SHAPE, -5);
        due.is("unwrap() of 9", x.unwrap(), Scene.NUMBER & 0xFFFFFFFFL);
        x.set(9, 0);
        due.is("unwrap() of 10", x.unwrap(), -5);
        x.trim(8);
        due.is("unwrap() of 8", x.unwrap(), -5);
    }

    private static void gone(Due due) {
        due.sentence("GONE = -6: The version is DESTROYED.");
        EscrowedVersions x = new Scene(0, 20).x;
        due.is("GONE", EscrowedVersions.GONE, -6);
        due.is("destroy(0)", x.destroy(Scene.GONE), -6);
        due.is("split(0, 1, 1)", x.split(Scene.GONE, 1, 1), -6);
        due.is("lock(0)", x.lock(Scene.GONE), -6);
        due.is("give(0, 1, 0)", x.give(Scene.GONE, 1, 0), -6);
        x.set(0, Scene.GONE);
        due.is("unwrap()", x.unwrap(), -6);
        due.is("version(0, 0), which tells of it", x.version(Scene.GONE, 0), 3);
    }

    private static void locked(Due due) {
        due.sentence("LOCKED = -7: The version is LOCKED.");
        EscrowedVersions x = new Scene(0, 20).x;
        due.is("LOCKED", EscrowedVersions.LOCKED, -7);
        due.is("split(1, 1, 1)", x.split(Scene.LOCKED, 1, 1), -7);
        due.is("lock(1)", x.lock(Scene.LOCKED), -7);
        x.set(0, Scene.LOCKED);
        due.is("unwrap()", x.unwrap(), -7);
        x.split(Scene.ACTIVE, 1, 1);
        x.lock(Scene.ACTIVE);
        due.is("wrap(1)", x.wrap(1), -7);
        due.is("destroy(1), which allows it", x.destroy(Scene.LOCKED), 2);
    }

    private static void forged(Due due) {
        due.sentence("FORGED = -8: What is given does not fit what was kept.");
        Scene scene = new Scene(0, 20);
        EscrowedVersions x = scene.x;
        due.is("FORGED", EscrowedVersions.FORGED, -8);
        due.is("give of no share", x.give(Scene.LOCKED, 6, 0), -8);
        due.is("give of another share", x.give(Scene.LOCKED, 1, scene.lockedShares[1] + 1), -8);
        x.set(8, x.byteAt(8) ^ 255);
        due.is("unwrap()", x.unwrap(), -8);
    }
}
