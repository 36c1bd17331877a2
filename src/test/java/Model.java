import java.util.ArrayDeque;
import java.util.ArrayList;
import java.util.List;

/**
 * The document's promises written a second time, by other means than the program's: the field by
 * powers of an element, lists instead of rows, and a locked version's secret remembered instead
 * of put together, so that the two agree only if the program puts it together rightly.
 */
final class Model {
    static final class Key {
        int state = 1;
        int secret;
        boolean locked;
        int t;
        int n;
        int[] shares = new int[0];
        final List<Integer> given = new ArrayList<>();
    }

    private static final int[] POWER = new int[510];
    private static final int[] LOGARITHM = new int[256];

    static {
        int power = 1;
        for (int k = 0; k < 255; k++) {
            POWER[k] = power;
            POWER[k + 255] = power;
            LOGARITHM[power] = k;
            int twice = power * 2 >= 256 ? power * 2 ^ 283 : power * 2;
            power = twice ^ power; // times x + 1, whose powers are all elements but 0
        }
    }

    final ArrayDeque<Integer> coins = new ArrayDeque<>();
    final List<Key> keys = new ArrayList<>();
    final List<int[]> log = new ArrayList<>();
    final List<Integer> envelope = new ArrayList<>();
    int[] latest = new int[0];
    int counter = 0;

    static int mix(int h, int x) {
        int y = (h ^ x) * 668265263 + 374761393;
        return y ^ y >>> 15;
    }

    static int product(int a, int b) {
        return a == 0 || b == 0 ? 0 : POWER[LOGARITHM[a] + LOGARITHM[b]];
    }

    static int pad(int s, int c) {
        return mix(mix(s, c), 1);
    }

    static int tag(int s, int c, int body) {
        return mix(mix(mix(s, 2), c), body) & 65535;
    }

    boolean coin(int b) {
        if (b < 0 || b > 255 || coins.size() == 64) {
            return false;
        }
        coins.addLast(b);
        return true;
    }

    int times(int a, int b) {
        return a < 0 || a > 255 || b < 0 || b > 255 ? -1 : product(a, b);
    }

    private boolean made(int v) {
        return v >= 0 && v < keys.size();
    }

    private int activeOne() {
        for (int v = 0; v < keys.size(); v++) {
            if (keys.get(v).state == 1) {
                return v;
            }
        }
        return -1;
    }

    private void write(int kind, int v, int detail) {
        int s = log.isEmpty() ? 7 : log.get(log.size() - 1)[3];
        log.add(new int[] {kind, v, detail, mix(mix(mix(s, kind), v), detail)});
    }

    int rotate() {
        if (keys.size() == 8 || log.size() == 80) {
            return -2;
        }
        if (coins.size() < 4) {
            return -3;
        }
        int before = activeOne();
        if (before >= 0) {
            keys.get(before).state = 2;
        }
        Key key = new Key();
        for (int k = 0; k < 4; k++) {
            key.secret = key.secret * 256 + coins.removeFirst();
        }
        keys.add(key);
        write(1, keys.size() - 1, before + 1);
        return keys.size() - 1;
    }

    int destroy(int v) {
        if (!made(v)) {
            return -1;
        }
        int before = keys.get(v).state;
        if (before == 3) {
            return -6;
        }
        if (log.size() == 80) {
            return -2;
        }
        Key gone = new Key();
        gone.state = 3;
        keys.set(v, gone);
        write(2, v, before);
        return before;
    }

    int split(int v, int t, int n) {
        if (!made(v) || t < 1 || n < t || n > 8) {
            return -1;
        }
        Key key = keys.get(v);
        if (key.state == 3) {
            return -6;
        }
        if (key.locked) {
            return -7;
        }
        if (log.size() == 80) {
            return -2;
        }
        if (coins.size() < 4 * (t - 1)) {
            return -3;
        }
        int[] shares = new int[n];
        for (int k = 0; k < 4; k++) {
            int[] value = new int[n];
            int[] element = new int[n];
            for (int i = 0; i < n; i++) {
                value[i] = key.secret >>> 24 - 8 * k & 255;
                element[i] = 1;
            }
            for (int power = 1; power < t; power++) {
                int coin = coins.removeFirst();
                for (int i = 0; i < n; i++) {
                    element[i] = product(element[i], i + 1);
                    value[i] ^= product(element[i], coin);
                }
            }
            for (int i = 0; i < n; i++) {
                shares[i] |= value[i] << 24 - 8 * k;
            }
        }
        key.t = t;
        key.n = n;
        key.shares = shares;
        latest = shares;
        write(3, v, 16 * t + n);
        return n;
    }

    int share(int i) {
        return i >= 1 && i <= latest.length ? latest[i - 1] : 0;
    }

    int lock(int v) {
        if (!made(v)) {
            return -1;
        }
        Key key = keys.get(v);
        if (key.state == 3) {
            return -6;
        }
        if (key.locked) {
            return -7;
        }
        if (key.t == 0) {
            return -4;
        }
        if (log.size() == 80) {
            return -2;
        }
        key.locked = true;
        write(4, v, 0);
        return key.t;
    }

    int give(int v, int i, int share) {
        if (!made(v)) {
            return -1;
        }
        Key key = keys.get(v);
        if (key.state == 3) {
            return -6;
        }
        if (!key.locked) {
            return -4;
        }
        if (i < 1 || i > key.n || mix(mix(5, i), share) != mix(mix(5, i), key.shares[i - 1])) {
            return -8;
        }
        if (key.given.contains(i)) {
            return key.t - key.given.size();
        }
        boolean last = key.given.size() + 1 == key.t;
        if (log.size() + (last ? 2 : 1) > 80) {
            return -2;
        }
        key.given.add(i);
        int needed = key.t - key.given.size();
        write(5, v, i);
        if (last) {
            key.locked = false;
            key.given.clear();
            write(6, v, key.t);
        }
        return needed;
    }

    int wrap(int p) {
        int v = activeOne();
        if (v < 0) {
            return -4;
        }
        Key key = keys.get(v);
        if (key.locked) {
            return -7;
        }
        int body = p ^ pad(key.secret, counter);
        int end = tag(key.secret, counter, body);
        envelope.clear();
        envelope.addAll(List.of(v, counter >> 8 & 255, counter & 255, body >>> 24, body >> 16 & 255,
                body >> 8 & 255, body & 255, end >> 8, end & 255));
        counter++;
        return v;
    }

    long unwrap() {
        if (envelope.size() != 9) {
            return -5;
        }
        int v = envelope.get(0);
        if (!made(v)) {
            return -1;
        }
        Key key = keys.get(v);
        if (key.state == 3) {
            return -6;
        }
        if (key.locked) {
            return -7;
        }
        int c = envelope.get(1) * 256 + envelope.get(2);
        int body = (envelope.get(3) * 256 + envelope.get(4)) * 65536 + envelope.get(5) * 256 + envelope.get(6);
        if (envelope.get(7) * 256 + envelope.get(8) != tag(key.secret, c, body)) {
            return -8;
        }
        return Integer.toUnsignedLong(body ^ pad(key.secret, c));
    }

    boolean set(int k, int b) {
        if (k < 0 || k > envelope.size() || b < 0 || b > 255 || k == 16) {
            return false;
        }
        if (k == envelope.size()) {
            envelope.add(b);
        } else {
            envelope.set(k, b);
        }
        return true;
    }

    boolean trim(int n) {
        if (n < 0 || n > envelope.size()) {
            return false;
        }
        envelope.subList(n, envelope.size()).clear();
        return true;
    }

    int byteAt(int k) {
        return k >= 0 && k < envelope.size() ? envelope.get(k) : -1;
    }

    int version(int v, int what) {
        if (!made(v) || what < 0 || what > 3) {
            return -1;
        }
        Key key = keys.get(v);
        int sum = 0;
        for (int i : key.given) {
            sum += 1 << i;
        }
        return new int[] {key.state, key.locked ? 1 : 0, 16 * key.t + key.n, sum}[what];
    }

    int log(int k, int what) {
        return k >= 0 && k < log.size() && what >= 0 && what <= 3 ? log.get(k)[what] : 0;
    }
}
