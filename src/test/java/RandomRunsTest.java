import java.util.Random;

/** All promises: long runs of calls drawn from fixed seeds, each answer held against the model's. */
public final class RandomRunsTest {
    private static final int RUNS = 4000;
    private static final int CALLS = 420; // with the last look at the state under the document's 512

    private final Due due;
    private final Random random;
    private final String run;
    private final EscrowedVersions x = new EscrowedVersions();
    private final Model m = new Model();

    private RandomRunsTest(Due due, int seed) {
        this.due = due;
        this.random = new Random(seed);
        this.run = "run " + seed + ": ";
    }

    public static void main(String[] args) {
        Due due = new Due("RandomRunsTest");
        for (int seed = 0; seed < RUNS; seed++) {
            new RandomRunsTest(due, seed).go(seed % 4);
        }
        due.end();
    }

    private void go(int flavour) {
        for (int k = 0; k < CALLS; k++) {
            int kind = random.nextInt(100);
            if (flavour == 1 && kind < 12 && k > 60) {
                kind = 60; // fewer new versions, so that the log fills up with gifts
            }
            if (flavour == 2 && kind >= 12 && kind < 15) {
                kind = 40; // nothing is destroyed
            }
            change(kind);
        }
        lookAtAll();
    }

    private int near(int low, int high) {
        return low - 1 + random.nextInt(high - low + 3);
    }

    private int anyVersion() {
        if (random.nextInt(40) == 0) {
            return random.nextInt();
        }
        return m.keys.isEmpty() ? near(0, 1) : random.nextInt(30) == 0 ? near(0, 8) : random.nextInt(m.keys.size());
    }

    private void change(int kind) {
        if (kind < 30) {
            changeVersions(kind);
        } else if (kind < 55) {
            int b = random.nextInt(30) == 0 ? near(0, 255) : random.nextInt(256);
            due.is(run + "coin(" + b + ")", x.coin(b), m.coin(b));
        } else if (kind < 75) {
            giveSome();
        } else if (kind < 90) {
            changeEnvelope(kind);
        } else {
            lookAtSome(kind);
        }
    }

    private void changeVersions(int kind) {
        int v = anyVersion();
        if (kind < 12) {
            if (random.nextInt(4) == 0) {
                due.is(run + "rotate()", x.rotate(), m.rotate());
            }
        } else if (kind < 15) {
            if (random.nextInt(6) == 0) {
                due.is(run + "destroy(" + v + ")", x.destroy(v), m.destroy(v));
            }
        } else if (kind < 23) {
            int n = near(1, 8);
            int t = random.nextInt(6) == 0 ? near(1, 8) : 1 + random.nextInt(Math.max(n, 1));
            due.is(run + "split(" + v + ", " + t + ", " + n + ")", x.split(v, t, n), m.split(v, t, n));
        } else {
            due.is(run + "lock(" + v + ")", x.lock(v), m.lock(v));
        }
    }

    private void giveSome() {
        int v = anyVersion();
        int i = random.nextInt(8) == 0 ? near(1, 8) : 1 + random.nextInt(8);
        int share = random.nextInt();
        if (v >= 0 && v < m.keys.size() && i >= 1 && i <= m.keys.get(v).shares.length && random.nextInt(10) != 0) {
            share = m.keys.get(v).shares[i - 1];
        }
        due.is(run + "give(" + v + ", " + i + ", " + share + ")", x.give(v, i, share), m.give(v, i, share));
    }

    private void changeEnvelope(int kind) {
        if (kind < 79) {
            int p = random.nextInt();
            due.is(run + "wrap(" + p + ")", x.wrap(p), m.wrap(p));
        } else if (kind < 85) {
            due.is(run + "unwrap()", x.unwrap(), m.unwrap());
        } else if (kind < 88) {
            int k = random.nextBoolean() ? near(0, 16) : m.envelope.size();
            int b = random.nextInt(10) == 0 ? near(0, 255) : random.nextInt(256);
            due.is(run + "set(" + k + ", " + b + ")", x.set(k, b), m.set(k, b));
        } else {
            int n = random.nextBoolean() ? near(0, 16) : 9;
            due.is(run + "trim(" + n + ")", x.trim(n), m.trim(n));
        }
    }

    private void lookAtSome(int kind) {
        int k = near(0, 80);
        int what = near(0, 3);
        int v = anyVersion();
        int a = near(0, 255);
        int b = near(0, 255);
        switch (kind) {
            case 90 -> due.is(run + "times(" + a + ", " + b + ")", x.times(a, b), m.times(a, b));
            case 91 -> due.is(run + "share(" + v + ")", x.share(v), m.share(v));
            case 92 -> due.is(run + "byteAt(" + k + ")", x.byteAt(k), m.byteAt(k));
            case 93 -> due.is(run + "length()", x.length(), m.envelope.size());
            case 94 -> due.is(run + "coins()", x.coins(), m.coins.size());
            case 95 -> due.is(run + "versions()", x.versions(), m.keys.size());
            case 96 -> due.is(run + "entries()", x.entries(), m.log.size());
            case 97, 98 ->
                due.is(run + "version(" + v + ", " + what + ")", x.version(v, what), m.version(v, what));
            default -> due.is(run + "log(" + k + ", " + what + ")", x.log(k, what), m.log(k, what));
        }
    }

    private void lookAtAll() {
        due.is(run + "coins() at the end", x.coins(), m.coins.size());
        due.is(run + "versions() at the end", x.versions(), m.keys.size());
        due.is(run + "entries() at the end", x.entries(), m.log.size());
        due.is(run + "length() at the end", x.length(), m.envelope.size());
        for (int k = 0; k < 16; k++) {
            due.is(run + "byteAt(" + k + ") at the end", x.byteAt(k), m.byteAt(k));
        }
        for (int i = 0; i < 10; i++) {
            due.is(run + "share(" + i + ") at the end", x.share(i), m.share(i));
        }
        for (int v = 0; v < 8; v++) {
            for (int what = 0; what < 4; what++) {
                due.is(run + "version(" + v + ", " + what + ") at the end", x.version(v, what), m.version(v, what));
            }
        }
        for (int what = 0; what < 4; what++) {
            int k = m.log.size() - 1;
            due.is(run + "log(" + k + ", " + what + ") at the end", x.log(k, what), m.log(k, what));
        }
        due.is(run + "unwrap() at the end", x.unwrap(), m.unwrap());
    }
}
