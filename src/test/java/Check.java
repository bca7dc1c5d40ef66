import java.util.function.IntUnaryOperator;

/** What the tests share: counting wrong answers, and writing FILES. Tests extend it for its short names. */
class Check {
    static final int NONE = -1, UNKNOWN = -101, OUTSIDE = -102, STATE = -103, FULL = -104;
    static final int FAILED = -31, GONE = -32, SPENT = -11, REFUSED = -12;
    static final int MIN = Integer.MIN_VALUE, MAX = Integer.MAX_VALUE;
    static final int END = 15;
    static final int CLAIM = 0, MAKE = 1, TELL = 2, ADD = 3, THROW = 4;
    static final int WORK = 5, CHANGE = 6, WRITE = 7, SKIP = 8, ASK = 9;

    /** What a call answers here when it throws: no call of the face answers these. */
    static final int AIOOBE = 1_000_000_001, NPE = 1_000_000_002, OTHER = 1_000_000_003;

    private static int wrong = 0;
    private static int looked = 0;

    /** There are no objects of it: all is static. */
    Check() {
    }

    static void due(String call, int got, int want) {
        looked++;
        if (got != want) {
            wrong++;
            System.out.println(call + " answered " + got + ", due is " + want);
        }
    }

    /** The same answer is due for each of these arguments. */
    static void dueEach(String call, int want, IntUnaryOperator answer, int... arguments) {
        for (int v : arguments) {
            due(call + "(" + v + ")", answer.applyAsInt(v), want);
        }
    }

    static void holds(String what, boolean so) {
        due(what, so ? 1 : 0, 1);
    }

    static void end(String test) {
        System.out.println(test + ": " + looked + " answers looked at, " + wrong + " not as due");
        if (wrong != 0) {
            System.exit(1);
        }
    }

    private static int thrown(RuntimeException e) {
        if (e.getClass() == ArrayIndexOutOfBoundsException.class) {
            return AIOOBE;
        }
        return e.getClass() == NullPointerException.class ? NPE : OTHER;
    }

    static int octet(PlugRounds x, int file, int i) {
        try {
            return x.octet(file, i);
        } catch (RuntimeException e) {
            return thrown(e);
        }
    }

    static int cell(PlugRounds x, int processor) {
        try {
            return x.cell(processor);
        } catch (RuntimeException e) {
            return thrown(e);
        }
    }

    static int resource(PlugRounds x, int r, int i) {
        try {
            return x.resource(r, i);
        } catch (RuntimeException e) {
            return thrown(e);
        }
    }

    /** A SOUND FILE of these RULES, four numbers each (if each of them is allowed). */
    static int[] rules(int... parts) {
        int[] bytes = new int[parts.length + 4];
        bytes[0] = 80;
        bytes[1] = 82;
        bytes[2] = parts.length / 4;
        System.arraycopy(parts, 0, bytes, 3, parts.length);
        return summed(bytes);
    }

    /** The same bytes with the last one as CLAUSE 6 wants it. */
    static int[] summed(int... bytes) {
        int sum = 0;
        for (int i = 0; i < bytes.length - 1; i++) {
            sum += bytes[i];
        }
        bytes[bytes.length - 1] = sum & 255;
        return bytes;
    }

    /** Eight bytes a call, as an object answers 512 calls and no more. */
    static void feedAll(PlugRounds x, int... bytes) {
        for (int from = 0; from < bytes.length; from += 8) {
            int n = Math.min(8, bytes.length - from);
            long w = 0;
            for (int i = from; i < from + n; i++) {
                w = w << 8 | bytes[i];
            }
            x.feed(n, w);
        }
    }

    static int lay(PlugRounds x, int file, int... bytes) {
        feedAll(x, bytes);
        return x.lay(file);
    }

    /** A new PROCESSOR with these RULES, by way of FILE 5. */
    static int plug(PlugRounds x, int... parts) {
        lay(x, 5, rules(parts));
        return x.define(5);
    }

    /** A new object with one PROCESSOR of these RULES. */
    static PlugRounds with(int... parts) {
        PlugRounds x = new PlugRounds();
        due("define of the test's FILE", plug(x, parts), 0);
        return x;
    }

    /** The same RULE n times. */
    static int[] times(int n, int... rule) {
        int[] parts = new int[n * rule.length];
        for (int i = 0; i < parts.length; i++) {
            parts[i] = rule[i % rule.length];
        }
        return parts;
    }

    static int[] join(int[] first, int... second) {
        int[] both = java.util.Arrays.copyOf(first, first.length + second.length);
        System.arraycopy(second, 0, both, first.length, second.length);
        return both;
    }

    /** UNITS of the NAMES from .. to, all with the same MARKS. */
    static void units(PlugRounds x, int from, int to, int marks) {
        for (int name = from; name <= to; name++) {
            x.unit(name, marks);
        }
    }

    /** All bytes of a RESOURCE, and none behind them. */
    static void dueBytes(String when, PlugRounds x, int r, int... want) {
        due(when + ": bytes of RESOURCE " + r, x.about(10 + r), want.length);
        for (int i = 0; i < want.length; i++) {
            due(when + ": resource(" + r + ", " + i + ")", resource(x, r, i), want[i]);
        }
        due(when + ": behind RESOURCE " + r, resource(x, r, want.length), AIOOBE);
    }

    /** All bytes of a FILE (told 0 .. 255 here), and none behind them. */
    static void dueOctets(String when, PlugRounds x, int file, int... want) {
        for (int i = 0; i < want.length; i++) {
            due(when + ": octet(" + file + ", " + i + ")", octet(x, file, i), (byte) want[i]);
        }
        due(when + ": behind FILE " + file, octet(x, file, want.length), AIOOBE);
    }

    /** All MESSAGES, each: what, PROCESSOR, UNIT's NAME, a, ROUND. */
    static void dueMessages(PlugRounds x, int[]... want) {
        due("how many MESSAGES", x.about(2), want.length);
        for (int i = 0; i < want.length; i++) {
            dueMessage(x, i, want[i][0], want[i][1], want[i][2], want[i][3], want[i][4]);
        }
    }

    static int[] row(int... parts) {
        return parts;
    }

    static void dueMessage(PlugRounds x, int i, int what, int processor, int name, int a, int round) {
        int[] want = {what, processor, name, a, round};
        for (int k = 0; k < want.length; k++) {
            due("message(" + i + ", " + k + ")", x.message(i, k), want[k]);
        }
    }

    static void dueUnit(PlugRounds x, int unit, int name, int marks, int isNew, int maker, int round) {
        int[] want = {name, marks, isNew, maker, round};
        for (int k = 0; k < want.length; k++) {
            due("mirror(" + unit + ", " + k + ")", x.mirror(unit, k), want[k]);
        }
    }

    private static final int LAST_ABOUT = 13;

    /**
     * All that can be seen of an object, in one text: to tell that a refusal changed nothing. It asks for what is
     * there alone, as an object answers 512 calls and no more.
     */
    static String all(PlugRounds x) {
        StringBuilder s = new StringBuilder(kept(x));
        for (int f = 0; f < 6; f++) {
            s.append(" file ").append(x.judge(f));
            int value = octet(x, f, 0);
            for (int i = 0; i < 64 && value != AIOOBE; i++) {
                s.append(' ').append(value);
                value = octet(x, f, i + 1);
            }
        }
        for (int m = x.about(2) - 1; m >= 0; m--) {
            for (int k = 0; k < 5; k++) {
                s.append(' ').append(x.message(m, k));
            }
        }
        for (int p = x.about(1) - 1; p >= 0; p--) {
            for (int k = 0; k < 4; k++) {
                s.append(' ').append(x.told(p, k));
            }
        }
        for (int k = 0; k <= LAST_ABOUT; k++) {
            s.append(" about ").append(x.about(k));
        }
        return s.toString();
    }

    /** What a RUN that is SPENT or REFUSED leaves as it was: UNITS, which ones are NEW, CELLS, RESOURCES. */
    static String kept(PlugRounds x) {
        StringBuilder s = new StringBuilder();
        for (int u = x.about(0) - 1; u >= 0; u--) {
            for (int k = 0; k < 5; k++) {
                s.append(' ').append(x.mirror(u, k));
            }
        }
        for (int r = 0; r < 4; r++) {
            s.append(" resource ");
            for (int i = x.about(10 + r) - 1; i >= 0; i--) {
                s.append(' ').append(resource(x, r, i));
            }
        }
        for (int p = x.about(1) - 1; p >= 0; p--) {
            s.append(" cell ").append(cell(x, p));
        }
        return s.append(" units ").append(x.about(0)).append(" new ").append(x.about(3)).toString();
    }
}
