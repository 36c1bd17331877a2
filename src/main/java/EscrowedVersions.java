import java.util.Arrays;

/**
 * Keeps the versions of a key: turns them over, wraps numbers under them, splits them among
 * trustees, locks them up and opens them again when enough trustees give their shares, destroys
 * them, and seals every change into a log.
 *
 * <p>Every public method first names its refusals, in the order in which the document names them,
 * and changes something only behind the last of them: so a refused call changes nothing.
 */
public final class EscrowedVersions {
    public static final int BAD = -1;
    public static final int FULL = -2;
    public static final int COINS = -3;
    public static final int STATE = -4;
    public static final int SHAPE = -5;
    public static final int GONE = -6;
    public static final int LOCKED = -7;
    public static final int FORGED = -8;

    private static final int MOST_COINS = 64;
    private static final int MOST_VERSIONS = 8;
    private static final int MOST_SHARES = 8;
    private static final int MOST_ENTRIES = 80;
    private static final int MOST_BYTES = 16;

    private static final int INT_BYTES = 4;
    private static final int WRAPPED_BYTES = 9;

    private static final int ACTIVE = 1;
    private static final int RETIRED = 2;
    private static final int DESTROYED = 3;

    private static final int ROTATE_ENTRY = 1;
    private static final int DESTROY_ENTRY = 2;
    private static final int SPLIT_ENTRY = 3;
    private static final int LOCK_ENTRY = 4;
    private static final int GIVE_ENTRY = 5;
    private static final int OPEN_ENTRY = 6;

    private final CoinRow coinRow;
    private final Journal journal;
    private final Envelope envelope;
    private final Splitting latest;
    private final Version[] made;
    private int madeCount;
    /** The version in state ACTIVE, or null when there is none. */
    private Version active;
    private int counter;

    public EscrowedVersions() {
        coinRow = new CoinRow();
        journal = new Journal();
        envelope = new Envelope();
        latest = new Splitting();
        made = new Version[MOST_VERSIONS];
        madeCount = 0;
        active = null;
        counter = 0;
    }

    public boolean coin(int b) {
        if (!isByte(b) || coinRow.count >= MOST_COINS) {
            return false;
        }
        coinRow.putLast(b);
        return true;
    }

    public int coins() {
        return coinRow.count;
    }

    public int times(int a, int b) {
        if (!isByte(a) || !isByte(b)) {
            return BAD;
        }
        return Field.product(a, b);
    }

    public int rotate() {
        if (madeCount >= MOST_VERSIONS || !journal.hasRoomFor(1)) {
            return FULL;
        }
        if (coinRow.count < INT_BYTES) {
            return COINS;
        }
        int detail = 0;
        if (active != null) {
            active.state = RETIRED;
            detail = 1 + active.number;
        }
        active = new Version(madeCount, coinRow.takeInt());
        made[madeCount] = active;
        madeCount++;
        journal.write(ROTATE_ENTRY, active.number, detail);
        return active.number;
    }

    public int destroy(int v) {
        Version version = find(v);
        if (version == null) {
            return BAD;
        }
        if (version.state == DESTROYED) {
            return GONE;
        }
        if (!journal.hasRoomFor(1)) {
            return FULL;
        }
        int before = version.state;
        version.forgetAll();
        if (before == ACTIVE) {
            active = null;
        }
        journal.write(DESTROY_ENTRY, v, before);
        return before;
    }

    public int split(int v, int t, int n) {
        Version version = find(v);
        if (version == null || !isEscrow(t, n)) {
            return BAD;
        }
        if (version.state == DESTROYED) {
            return GONE;
        }
        if (version.locked) {
            return LOCKED;
        }
        if (!journal.hasRoomFor(1)) {
            return FULL;
        }
        if (coinRow.count < INT_BYTES * (t - 1)) {
            return COINS;
        }
        latest.make(version.secret, t, n, coinRow);
        version.takeEscrow(t, n, latest);
        journal.write(SPLIT_ENTRY, v, version.escrow());
        return n;
    }

    public int share(int i) {
        if (i < 1 || i > latest.count) {
            return 0;
        }
        return latest.shares[i];
    }

    public int lock(int v) {
        Version version = find(v);
        if (version == null) {
            return BAD;
        }
        if (version.state == DESTROYED) {
            return GONE;
        }
        if (version.locked) {
            return LOCKED;
        }
        if (version.threshold == 0) {
            return STATE;
        }
        if (!journal.hasRoomFor(1)) {
            return FULL;
        }
        version.close();
        journal.write(LOCK_ENTRY, v, 0);
        return version.threshold;
    }

    public int give(int v, int i, int share) {
        Version version = find(v);
        if (version == null) {
            return BAD;
        }
        if (version.state == DESTROYED) {
            return GONE;
        }
        if (!version.locked) {
            return STATE;
        }
        if (!version.fits(i, share)) {
            return FORGED;
        }
        int needed = version.threshold - version.givenCount;
        if (version.isGiven(i)) {
            return needed;
        }
        // The last share that is needed writes the opening too: without room for both entries
        // the whole call is refused.
        if (!journal.hasRoomFor(needed == 1 ? 2 : 1)) {
            return FULL;
        }
        version.accept(i, share);
        journal.write(GIVE_ENTRY, v, i);
        if (needed == 1) {
            version.open();
            journal.write(OPEN_ENTRY, v, version.threshold);
        }
        return needed - 1;
    }

    public int wrap(int p) {
        if (active == null) {
            return STATE;
        }
        if (active.locked) {
            return LOCKED;
        }
        int body = p ^ pad(active.secret, counter);
        envelope.size = 0;
        envelope.putBehind(active.number, 1);
        envelope.putBehind(counter, 2);
        envelope.putBehind(body, INT_BYTES);
        envelope.putBehind(tag(active.secret, counter, body), 2);
        counter++;
        return active.number;
    }

    public long unwrap() {
        if (envelope.size != WRAPPED_BYTES) {
            return SHAPE;
        }
        Version version = find(envelope.number(0, 1));
        if (version == null) {
            return BAD;
        }
        if (version.state == DESTROYED) {
            return GONE;
        }
        if (version.locked) {
            return LOCKED;
        }
        int c = envelope.number(1, 2);
        int body = envelope.number(3, INT_BYTES);
        if (envelope.number(7, 2) != tag(version.secret, c, body)) {
            return FORGED;
        }
        return (body ^ pad(version.secret, c)) & 0xFFFFFFFFL;
    }

    public boolean set(int k, int b) {
        return envelope.put(k, b);
    }

    public boolean trim(int n) {
        if (n < 0 || n > envelope.size) {
            return false;
        }
        envelope.size = n;
        return true;
    }

    public int byteAt(int k) {
        if (k < 0 || k >= envelope.size) {
            return BAD;
        }
        return envelope.bytes[k];
    }

    public int length() {
        return envelope.size;
    }

    public int version(int v, int what) {
        Version version = find(v);
        if (version == null) {
            return BAD;
        }
        switch (what) {
            case 0:
                return version.state;
            case 1:
                return version.locked ? 1 : 0;
            case 2:
                return version.escrow();
            case 3:
                return version.givenSet;
            default:
                return BAD;
        }
    }

    public int versions() {
        return madeCount;
    }

    public int log(int k, int what) {
        if (k < 0 || k >= journal.count) {
            return 0;
        }
        switch (what) {
            case 0:
                return journal.kinds[k];
            case 1:
                return journal.numbers[k];
            case 2:
                return journal.details[k];
            case 3:
                return journal.seals[k];
            default:
                return 0;
        }
    }

    public int entries() {
        return journal.count;
    }

    /** Version v, or null when there is none. */
    private Version find(int v) {
        return v < 0 || v >= madeCount ? null : made[v];
    }

    private static boolean isByte(int b) {
        return b >= 0 && b <= 255;
    }

    private static boolean isEscrow(int t, int n) {
        return t >= 1 && t <= n && n <= MOST_SHARES;
    }

    /** MIX of the document. */
    private static int mix(int h, int x) {
        int y = (h ^ x) * 668265263 + 374761393;
        return y ^ (y >>> 15);
    }

    private static int digest(int i, int share) {
        return mix(mix(5, i), share);
    }

    /** What hides a number in the envelope. */
    private static int pad(int secret, int c) {
        return mix(mix(secret, c), 1);
    }

    /** The two bytes that an envelope ends with. */
    private static int tag(int secret, int c, int body) {
        return mix(mix(mix(secret, 2), c), body) & 0xFFFF;
    }

    /** The field of the bytes, its polynomials' remainders taken by x^8 + x^4 + x^3 + x + 1. */
    private static final class Field {
        private static final int MODULUS = 0x11B;

        static int product(int a, int b) {
            int sum = 0;
            int shifted = a;
            for (int k = 0; k < 8; k++) {
                if (((b >> k) & 1) != 0) {
                    sum ^= shifted;
                }
                shifted <<= 1;
                if (shifted > 255) {
                    shifted ^= MODULUS;
                }
            }
            return sum;
        }

        /** The inverse of a, which is its power 254 = 2 + 4 + .. + 128; 0 for 0. */
        static int inverse(int a) {
            int power = a;
            int result = 1;
            for (int k = 1; k < 8; k++) {
                power = product(power, power);
                result = product(result, power);
            }
            return result;
        }
    }

    /** The coins, in a ring, so that taking the first one moves no other. */
    private static final class CoinRow {
        private final int[] ring = new int[MOST_COINS];
        private int first = 0;
        private int count = 0;

        /** Only while there is room. */
        void putLast(int b) {
            ring[(first + count) & (MOST_COINS - 1)] = b;
            count++;
        }

        /** Only while there is one. A coin that was taken may be part of a secret: none stays behind. */
        int take() {
            int b = ring[first];
            ring[first] = 0;
            first = (first + 1) & (MOST_COINS - 1);
            count--;
            return b;
        }

        int takeInt() {
            int number = 0;
            for (int k = 0; k < INT_BYTES; k++) {
                number = (number << 8) | take();
            }
            return number;
        }
    }

    /** The log. */
    private static final class Journal {
        private static final int FIRST_SEAL = 7;

        private final int[] kinds = new int[MOST_ENTRIES];
        private final int[] numbers = new int[MOST_ENTRIES];
        private final int[] details = new int[MOST_ENTRIES];
        private final int[] seals = new int[MOST_ENTRIES];
        private int count = 0;

        boolean hasRoomFor(int more) {
            return count + more <= MOST_ENTRIES;
        }

        /** Only while there is room. */
        void write(int kind, int number, int detail) {
            int before = count == 0 ? FIRST_SEAL : seals[count - 1];
            kinds[count] = kind;
            numbers[count] = number;
            details[count] = detail;
            seals[count] = mix(mix(mix(before, kind), number), detail);
            count++;
        }
    }

    /** The row of bytes that a number is wrapped into. */
    private static final class Envelope {
        private final int[] bytes = new int[MOST_BYTES];
        private int size = 0;

        /** Byte k becomes b, or b the new last byte; false, with nothing changed, when it can't. */
        boolean put(int k, int b) {
            if (k < 0 || k > size || k >= MOST_BYTES || !isByte(b)) {
                return false;
            }
            bytes[k] = b;
            if (k == size) {
                size++;
            }
            return true;
        }

        /** Puts the lowest bytes of a number behind the last byte, the highest of them first. */
        void putBehind(int number, int many) {
            for (int k = many - 1; k >= 0; k--) {
                put(size, (number >>> (8 * k)) & 255);
            }
        }

        /** The number that some bytes from byte k on make; only where there are that many. */
        int number(int k, int many) {
            int number = 0;
            for (int j = k; j < k + many; j++) {
                number = (number << 8) | bytes[j];
            }
            return number;
        }
    }

    /** The shares of the latest splitting, from number 1 on. */
    private static final class Splitting {
        private final int[] shares = new int[MOST_SHARES + 1];
        private final int[] coefficients = new int[MOST_SHARES];
        private int count = 0;

        /** Only with enough coins in the row. */
        void make(int secret, int t, int n, CoinRow coinRow) {
            Arrays.fill(shares, 0);
            count = n;
            for (int k = INT_BYTES - 1; k >= 0; k--) {
                coefficients[0] = (secret >>> (8 * k)) & 255;
                for (int power = 1; power < t; power++) {
                    coefficients[power] = coinRow.take();
                }
                for (int i = 1; i <= n; i++) {
                    shares[i] = (shares[i] << 8) | valueAt(i, t);
                }
            }
            // The coefficients are the secret: a version that is locked must have forgotten it.
            Arrays.fill(coefficients, 0);
        }

        private int valueAt(int element, int t) {
            int value = 0;
            for (int power = t - 1; power >= 0; power--) {
                value = Field.product(value, element) ^ coefficients[power];
            }
            return value;
        }
    }

    /** One version; its escrow's threshold is 0 while it has none. */
    private static final class Version {
        private final int number;
        private final int[] digests = new int[MOST_SHARES + 1];
        private final int[] givenShares = new int[MOST_SHARES + 1];
        private int state = ACTIVE;
        private int secret;
        private boolean locked = false;
        private int threshold = 0;
        private int shareCount = 0;
        /** The sum of 2^i over the shares i that are given. */
        private int givenSet = 0;
        private int givenCount = 0;

        Version(int number, int secret) {
            this.number = number;
            this.secret = secret;
        }

        int escrow() {
            return 16 * threshold + shareCount;
        }

        void takeEscrow(int t, int n, Splitting splitting) {
            threshold = t;
            shareCount = n;
            Arrays.fill(digests, 0);
            for (int i = 1; i <= n; i++) {
                digests[i] = digest(i, splitting.shares[i]);
            }
        }

        void close() {
            locked = true;
            secret = 0;
            forgetGiven();
        }

        boolean fits(int i, int share) {
            return i >= 1 && i <= shareCount && digests[i] == digest(i, share);
        }

        boolean isGiven(int i) {
            return ((givenSet >> i) & 1) != 0;
        }

        /** Only for a share that fits and is not given yet. */
        void accept(int i, int share) {
            givenShares[i] = share;
            givenSet |= 1 << i;
            givenCount++;
        }

        void open() {
            secret = putTogether();
            locked = false;
            forgetGiven();
        }

        void forgetAll() {
            state = DESTROYED;
            secret = 0;
            locked = false;
            threshold = 0;
            shareCount = 0;
            Arrays.fill(digests, 0);
            forgetGiven();
        }

        private void forgetGiven() {
            givenSet = 0;
            givenCount = 0;
            Arrays.fill(givenShares, 0);
        }

        private int putTogether() {
            int sum = 0;
            for (int i = 1; i <= MOST_SHARES; i++) {
                if (isGiven(i)) {
                    sum ^= scaled(givenShares[i], weightAtZero(i));
                }
            }
            return sum;
        }

        /** The value at 0 of the polynomial that is 1 at i and 0 at every other given number. */
        private int weightAtZero(int i) {
            int weight = 1;
            for (int j = 1; j <= MOST_SHARES; j++) {
                if (j != i && isGiven(j)) {
                    weight = Field.product(weight, Field.product(j, Field.inverse(j ^ i)));
                }
            }
            return weight;
        }

        /** Each byte of a share times an element of the field. */
        private static int scaled(int share, int factor) {
            int result = 0;
            for (int k = INT_BYTES - 1; k >= 0; k--) {
                result = (result << 8) | Field.product((share >>> (8 * k)) & 255, factor);
            }
            return result;
        }
    }
}
