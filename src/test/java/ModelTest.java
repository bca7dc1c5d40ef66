import java.util.Random;

/** Runs of 512 calls, drawn by fixed seeds, each answer of which has to be the Model's. */
public final class ModelTest {
    private static final int RUNS = 3000;
    private static final int CALLS = 512;
    private static final int[] WILD = {Integer.MIN_VALUE, Integer.MAX_VALUE, -1, -2, 64, 100, 255, 256, 1000};

    private final Random random;
    private final PlugRounds x = new PlugRounds();
    private final Model y = new Model();
    private final String run;
    private int[] waiting = {};
    private int at = 0;
    private boolean isToLay = false;

    private ModelTest(int seed) {
        random = new Random(seed);
        run = "seed " + seed + ", call ";
    }

    public static void main(String[] args) {
        for (int seed = 1; seed <= RUNS; seed++) {
            ModelTest test = new ModelTest(seed);
            for (int k = 0; k < CALLS; k++) {
                test.call(k);
            }
        }
        Check.end("ModelTest");
    }

    /** Mostly 0 .. most, and now and then something beyond it. */
    private int pick(int most) {
        if (random.nextInt(25) == 0) {
            return WILD[random.nextInt(WILD.length)];
        }
        return random.nextInt(20) == 0 ? most + 1 : random.nextInt(most + 1);
    }

    private int[] someRules() {
        int[] parts = new int[4 * (1 + random.nextInt(12))];
        boolean isCalm = random.nextInt(4) != 0;
        for (int i = 0; i < parts.length; i += 4) {
            int act = random.nextInt(10);
            act = isCalm && (act == Check.THROW || act == Check.WORK) ? Check.MAKE : act;
            parts[i] = random.nextInt(5) == 0 ? Check.END : random.nextInt(random.nextBoolean() ? 3 : 8);
            parts[i + 1] = act;
            parts[i + 2] = act == Check.MAKE ? random.nextInt(64) : act == Check.WRITE || act == Check.ASK
                ? random.nextInt(4) : act == Check.SKIP ? random.nextInt(9) : random.nextInt(256);
            parts[i + 3] = act == Check.TELL ? random.nextInt(3) : act == Check.SKIP ? random.nextInt(5) : random.nextInt(256);
        }
        int[] bytes = Check.rules(parts);
        if (random.nextInt(10) == 0) {
            bytes[random.nextInt(bytes.length)] ^= 1 << random.nextInt(8);
        }
        return bytes;
    }

    private void call(int k) {
        if (at < waiting.length) {
            feedWaiting(k);
            return;
        }
        int kind = random.nextInt(100);
        if (isToLay || kind < 2) {
            int file = pick(5);
            isToLay = false;
            due(k, "lay", x.lay(file), y.lay(file));
        } else if (kind < 8) {
            waiting = someRules();
            at = 0;
            isToLay = random.nextInt(20) != 0;
            feedWaiting(k);
        } else if (kind < 42) {
            change(k, kind);
        } else {
            look(k, kind);
        }
    }

    private void feedWaiting(int k) {
        int n = Math.min(8, waiting.length - at);
        long w = random.nextLong();
        for (int i = 0; i < n; i++) {
            w = w << 8 | waiting[at + i];
        }
        at += n;
        due(k, "feed", x.feed(n, w), y.feed(n, w));
    }

    private void due(int k, String call, int got, int want) {
        Check.due(run + k + ": " + call, got, want);
    }

    private void change(int k, int kind) {
        int a = pick(5);
        boolean flag = random.nextInt(3) == 0;
        if (kind < 16) {
            due(k, "define", x.define(a), y.define(a));
        } else if (kind < 24) {
            int name = pick(63);
            int marks = pick(255);
            due(k, "unit", x.unit(name, marks), y.unit(name, marks));
        } else if (kind < 32) {
            int n = random.nextInt(3) == 0 ? random.nextInt(60) : pick(100000);
            due(k, "run", x.run(n), y.run(n));
        } else if (kind < 36) {
            due(k, "anew", x.anew(), y.anew());
        } else if (kind < 37) {
            due(k, "fails", x.fails(a, flag), y.fails(a, flag));
        } else if (kind < 38) {
            due(k, "pass", x.pass(!flag), y.pass(!flag));
        } else if (kind < 39) {
            int v = random.nextBoolean() ? random.nextInt() : random.nextInt(10);
            due(k, "option", x.option(a, v), y.option(a, v));
        } else if (kind < 41) {
            int unit = pick(10);
            int marks = pick(255);
            due(k, "marks", x.marks(unit, marks), y.marks(unit, marks));
        } else if (random.nextInt(8) == 0) {
            due(k, "clear", x.clear(), y.clear());
        } else {
            int i = pick(51);
            int mask = pick(255);
            due(k, "plant", x.plant(a, i, mask), y.plant(a, i, mask));
        }
    }

    private void look(int k, int kind) {
        int what = pick(4);
        if (kind < 48) {
            int a = pick(5);
            int i = pick(52);
            due(k, "octet", Check.octet(x, a, i), y.octet(a, i));
        } else if (kind < 51) {
            int a = pick(5);
            due(k, "judge", x.judge(a), y.judge(a));
        } else if (kind < 63) {
            int unit = pick(39);
            due(k, "mirror", x.mirror(unit, what), y.mirror(unit, what));
        } else if (kind < 75) {
            int i = pick(119);
            due(k, "message", x.message(i, what), y.message(i, what));
        } else if (kind < 81) {
            int a = pick(5);
            due(k, "told", x.told(a, what), y.told(a, what));
        } else if (kind < 87) {
            int a = pick(5);
            due(k, "cell", Check.cell(x, a), y.cell(a));
        } else if (kind < 92) {
            int r = pick(3);
            int i = pick(random.nextBoolean() ? 5 : 99);
            due(k, "resource", Check.resource(x, r, i), y.resource(r, i));
        } else if (kind < 98) {
            int a = pick(13);
            due(k, "about", x.about(a), y.about(a));
        } else if (kind < 99) {
            due(k, "fails", x.fails(what, false), y.fails(what, false));
        } else {
            int n = pick(8);
            long w = random.nextLong();
            isToLay = random.nextInt(4) != 0;
            due(k, "feed", x.feed(n, w), y.feed(n, w));
        }
    }
}
