import java.lang.reflect.Array;
import java.lang.reflect.Field;
import java.lang.reflect.Modifier;

/**
 * Promises 6 and 9: a LOCKED version's secret is forgotten, and a DESTROYED one has no secret and no
 * given shares any more. No call tells this, so the test looks for them in the object's own fields.
 */
public final class ForgetTest {
    public static void main(String[] args) throws IllegalAccessException {
        Due due = new Due("ForgetTest");
        int secret = Prepared.secret(0);
        EscrowedVersions x = Prepared.withVersions(2);
        due.is("the secret is found before", holds(x, secret), true);
        Prepared.coins(x, 0xA1, 0xA2, 0xA3, 0xA4);
        x.split(0, 2, 3);
        int[] shares = {0, x.share(1), x.share(2), x.share(3)};
        x.lock(0);
        due.is("the secret behind lock(0)", holds(x, secret), false);
        due.is("the secret's first byte behind lock(0)", holds(x, secret >>> 24), false);
        due.is("a coin of the splitting behind lock(0)", holds(x, 0xA4), false);
        x.give(0, 1, shares[1]);
        x.give(0, 3, shares[3]);
        due.is("the secret behind the opening", holds(x, secret), true);
        x.split(1, 1, 1); // the latest splitting is another version's now
        due.is("a share behind the opening", holds(x, shares[1]), false);
        x.lock(0);
        x.give(0, 2, shares[2]);
        due.is("a given share", holds(x, shares[2]), true);
        x.destroy(0);
        due.is("a given share behind destroy(0)", holds(x, shares[2]), false);
        due.is("a digest behind destroy(0)", holds(x, Model.mix(Model.mix(5, 1), shares[1])), false);
        x.destroy(1);
        due.is("a secret in the latest splitting, which share tells", holds(x, Prepared.secret(1)), true);
        unlocked(due);
        due.end();
    }

    private static void unlocked(Due due) throws IllegalAccessException {
        EscrowedVersions x = Prepared.withVersions(1);
        x.destroy(0);
        due.is("the secret behind destroy(0)", holds(x, Prepared.secret(0)), false);
    }

    /** Whether a number stands in a field or row of the object or of the objects in it. */
    private static boolean holds(Object object, int number) throws IllegalAccessException {
        for (Field field : object.getClass().getDeclaredFields()) {
            if (Modifier.isStatic(field.getModifiers())) {
                continue;
            }
            field.setAccessible(true);
            if (isOrHolds(field.get(object), number)) {
                return true;
            }
        }
        return false;
    }

    private static boolean isOrHolds(Object value, int number) throws IllegalAccessException {
        if (value == null || value instanceof Boolean) {
            return false;
        }
        if (value instanceof Number) {
            return ((Number) value).intValue() == number;
        }
        if (!value.getClass().isArray()) {
            return holds(value, number);
        }
        for (int k = 0; k < Array.getLength(value); k++) {
            if (isOrHolds(Array.get(value, k), number)) {
                return true;
            }
        }
        return false;
    }
}
