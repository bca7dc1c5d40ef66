import java.util.function.ToIntFunction;

/**
 * Terms: "Refusals are answers, of several the one told first: UNKNOWN (a number names nothing), OUTSIDE (not as told),
 * STATE, FULL. They change nothing." Each refused call, and each that throws, is made on an object that is new, on one
 * that is in use and on one that is full, and then all of it is looked at beside a twin that was spared the call.
 */
public final class RefusalsTest extends Check {
    static final int NEW = 0, USED = 1, FILLED = 2;
    private static final String[] STATES = {"new", "in use", "full"};
    private static final int PARTS = 9;

    private final int state;
    private final String[] spared = new String[PARTS];

    private RefusalsTest(int state) {
        this.state = state;
        for (int part = 0; part < PARTS; part++) {
            spared[part] = seen(part, object(state));
        }
    }

    public static void main(String[] args) {
        for (int state = NEW; state <= FILLED; state++) {
            RefusalsTest test = new RefusalsTest(state);
            test.refusedInEachState();
            test.thrownInEachState();
            test.lookedAtInEachState();
        }
        refusedOfNew(new RefusalsTest(NEW));
        refusedOfUsed(new RefusalsTest(USED));
        refusedOfFilled(new RefusalsTest(FILLED));
        end("RefusalsTest");
    }

    /** The answer is due, and the object then is as one that was not asked. */
    private void refuses(String call, int want, ToIntFunction<PlugRounds> answer) {
        for (int part = 0; part < PARTS; part++) {
            PlugRounds x = object(state);
            due(call + " of one that is " + STATES[state], answer.applyAsInt(x), want);
            holds(call + " of one that is " + STATES[state] + " leaves part " + part, seen(part, x).equals(spared[part]));
        }
    }

    /** Whatever it answers, it changes nothing. */
    private void looks(String call, ToIntFunction<PlugRounds> answer) {
        refuses(call, answer.applyAsInt(object(state)), answer);
    }

    static PlugRounds object(int state) {
        return state == NEW ? new PlugRounds() : state == USED ? used() : filled();
    }

    /**
     * FILES: 0 SOUND, 1 broken, 2 GONE, 3 about to fail, 4 empty, 5 SOUND; 60 bytes on the TAPE; 3 PROCESSORS, one of
     * them STOPPED; 6 UNITS, two of them MADE, two NEW; MESSAGES and bytes; OPTIONS; THROW does PASS.
     */
    private static PlugRounds used() {
        PlugRounds x = with(0, WRITE, 0, 7, 0, TELL, 1, 1, 0, MAKE, 50, 2, 1, WRITE, 3, 9, END, MAKE, 51, 1, 2, ADD, 5, 0);
        plug(x, 0, ASK, 1, 0, 1, THROW, 2, 0);
        plug(x, 0, ADD, 200, 0, END, WRITE, 1, 255);
        lay(x, 0, rules(3, WORK, 2, 2, 3, WRITE, 2, 1));
        lay(x, 1, 80, 82, 1, 0, 0, 0, 0, 0);
        lay(x, 2, rules(0, TELL, 0, 0));
        x.fails(2, true);
        x.define(2);
        lay(x, 3, rules(0, TELL, 0, 0));
        x.fails(3, true);
        for (int k = 0; k < 60; k += 5) {
            x.feed(5, 0x0102030405L + k);
        }
        for (int i = 0; i <= 3; i++) {
            x.option(i, 1000 + i);
        }
        x.pass(true);
        units(x, 10, 13, 1);
        due("the RUN of the one in use", x.run(1000), 2);
        x.marks(1, 5);
        return x;
    }

    /**
     * FILES: 0 and 1 SOUND, 2 broken, 3 about to fail, 4 of 64 bytes, 5 SOUND; 64 bytes on the TAPE; 6 PROCESSORS; 40
     * UNITS; 120 MESSAGES; 100 bytes in RESOURCE 0; the latest RUN was REFUSED.
     */
    private static PlugRounds filled() {
        PlugRounds x = new PlugRounds();
        lay(x, 0, rules(times(12, 0, TELL, 3, 2)));
        lay(x, 1, rules(times(10, 1, WRITE, 0, 200)));
        x.define(0);
        x.define(1);
        plug(x, 2, THROW, 0, 0);
        x.define(5);
        x.define(0);
        x.define(1);
        lay(x, 2, 80, 82, 13, 0);
        lay(x, 3, rules(5, TELL, 0, 0));
        x.fails(3, true);
        for (int k = 0; k < 16; k++) {
            x.feed(8, 0x8070605040302010L + k);
            if (k == 7) {
                x.lay(4);
            }
        }
        units(x, 0, 4, 3);
        units(x, 5, 39, 0);
        due("the RUN of the full one", x.run(1000), 1);
        x.marks(39, 4);
        x.marks(0, 1);
        due("the RUN that is REFUSED", x.run(1000), REFUSED);
        due("UNITS of the full one", x.about(0), 40);
        due("PROCESSORS of the full one", x.about(1), 6);
        due("MESSAGES of the full one", x.about(2), 120);
        due("bytes of the full one", x.about(10), 100);
        return x;
    }

    /** One part of all that can be seen, some of it by calls that change the object: so each part has its own twin. */
    private static String seen(int part, PlugRounds x) {
        switch (part) {
            case 0:
                return seenOfUnits(x);
            case 1:
                return seenOfMessages(x, 0);
            case 2:
                return seenOfMessages(x, 60);
            case 3:
                return seenOfFiles(x, 0);
            case 4:
                return seenOfFiles(x, 3);
            case 5:
                return seenOfProcessors(x);
            case 6:
                return seenOfStarts(x);
            case 7:
                return seenOfTheTape(x);
            default:
                return seenByRuns(x);
        }
    }

    private static String seenOfUnits(PlugRounds x) {
        StringBuilder s = new StringBuilder();
        for (int u = 0; u < x.about(0); u++) {
            for (int k = 0; k < 5; k++) {
                s.append(x.mirror(u, k)).append(' ');
            }
        }
        return s.append(x.about(0)).append(' ').append(x.about(3)).toString();
    }

    private static String seenOfMessages(PlugRounds x, int from) {
        int count = x.about(2);
        StringBuilder s = new StringBuilder().append(count).append(' ');
        for (int i = from; i < from + 60 && i < count; i++) {
            for (int k = 0; k < 5; k++) {
                s.append(x.message(i, k)).append(' ');
            }
        }
        return s.toString();
    }

    private static String seenOfFiles(PlugRounds x, int from) {
        StringBuilder s = new StringBuilder();
        for (int f = from; f < from + 3; f++) {
            int value = octet(x, f, 0);
            for (int i = 1; i <= 64 && value != AIOOBE; i++) {
                s.append(value).append(' ');
                value = octet(x, f, i);
            }
            s.append(x.judge(f)).append(' ');
        }
        return s.toString();
    }

    private static String seenOfProcessors(PlugRounds x) {
        StringBuilder s = new StringBuilder();
        for (int p = 0; p < 6; p++) {
            s.append(cell(x, p)).append(' ');
            for (int k = 0; k < 4; k++) {
                s.append(x.told(p, k)).append(' ');
            }
        }
        for (int r = 0; r < 4; r++) {
            for (int i = x.about(10 + r) - 1; i >= 0; i--) {
                s.append(resource(x, r, i)).append(' ');
            }
        }
        for (int what = 0; what <= 13; what++) {
            s.append(x.about(what)).append(' ');
        }
        for (int i = 0; i <= 3; i++) {
            s.append(x.option(i, 0)).append(' ');
        }
        return s.append(x.pass(false)).toString();
    }

    private static String seenOfStarts(PlugRounds x) {
        StringBuilder s = new StringBuilder();
        for (int f = 0; f <= 5; f++) {
            x.clear();
            s.append(x.define(f)).append(' ').append(x.define(f)).append(' ').append(x.fails(f, false)).append(' ');
        }
        return s.toString();
    }

    private static String seenOfTheTape(PlugRounds x) {
        StringBuilder s = new StringBuilder().append(x.lay(0)).append(' ');
        int value = octet(x, 0, 0);
        for (int i = 1; i <= 64 && value != AIOOBE; i++) {
            s.append(value).append(' ');
            value = octet(x, 0, i);
        }
        return s.toString();
    }

    /** What the next RUNS come to tells which RULES, OPTIONS and PASS they have. */
    private static String seenByRuns(PlugRounds x) {
        StringBuilder s = new StringBuilder();
        for (int k = 0; k < 3; k++) {
            s.append(x.run(100000)).append(' ').append(x.anew()).append(' ').append(x.about(4)).append(' ');
            for (int p = 0; p < 6; p++) {
                s.append(cell(x, p)).append(' ').append(x.told(p, 3)).append(' ');
            }
            x.pass(true);
        }
        return s.append(seenOfUnits(x)).toString();
    }

    private static final int[] NOT_FILES = {-1, 6, MIN, MAX};

    // Terms: "UNKNOWN (a number names nothing), OUTSIDE (not as told)", "They change nothing": whatever is there
    private void refusedInEachState() {
        for (int n : new int[] {0, -1, 9, MIN, MAX}) {
            refuses("2 feed(" + n + ")", OUTSIDE, x -> x.feed(n, -1));
        }
        for (int f : NOT_FILES) {
            refuses("3 lay(" + f + ")", UNKNOWN, x -> x.lay(f));
            refuses("5 plant(" + f + ", 0, 1)", UNKNOWN, x -> x.plant(f, 0, 1));
            refuses("6 fails(" + f + ", true)", UNKNOWN, x -> x.fails(f, true));
            refuses("6 fails(" + f + ", false)", UNKNOWN, x -> x.fails(f, false));
            refuses("7 judge(" + f + ")", UNKNOWN, x -> x.judge(f));
            refuses("8 define(" + f + ")", UNKNOWN, x -> x.define(f));
        }
        for (int i : new int[] {-1, 64, MIN, MAX}) {
            refuses("5 plant(0, " + i + ", 1)", UNKNOWN, x -> x.plant(0, i, 1));
            refuses("9 unit(" + i + ", 1)", OUTSIDE, x -> x.unit(i, 1));
        }
        for (int marks : new int[] {-1, 256, MIN, MAX}) {
            refuses("9 unit(62, " + marks + ")", OUTSIDE, x -> x.unit(62, marks));
        }
        for (int unit : new int[] {-1, 40, MIN, MAX}) {
            refuses("10 marks(" + unit + ", 1)", UNKNOWN, x -> x.marks(unit, 1));
            refuses("15 mirror(" + unit + ", 0)", UNKNOWN, x -> x.mirror(unit, 0));
        }
        refusedNumbers();
    }

    private void refusedNumbers() {
        for (int i : new int[] {-1, 4, MIN, MAX}) {
            refuses("12 option(" + i + ", 9)", OUTSIDE, x -> x.option(i, 9));
        }
        for (int n : new int[] {-1, 100001, MIN, MAX}) {
            refuses("14 run(" + n + ")", OUTSIDE, x -> x.run(n));
        }
        for (int i : new int[] {-1, 120, MIN, MAX}) {
            refuses("16 message(" + i + ", 0)", UNKNOWN, x -> x.message(i, 0));
        }
        for (int p : new int[] {-1, 6, MIN, MAX}) {
            refuses("17 told(" + p + ", 0)", UNKNOWN, x -> x.told(p, 0));
        }
        for (int what : new int[] {-1, 7, 9, 14, MIN, MAX}) {
            refuses("20 about(" + what + ")", OUTSIDE, x -> x.about(what));
        }
    }

    // Promises 4, 18, 19: what throws ArrayIndexOutOfBoundsException, and changes nothing
    private void thrownInEachState() {
        for (int f : NOT_FILES) {
            refuses("4 octet(" + f + ", 0)", AIOOBE, x -> octet(x, f, 0));
            refuses("18 cell(" + f + ")", AIOOBE, x -> cell(x, f));
        }
        for (int i : new int[] {-1, 64, MIN, MAX}) {
            refuses("4 octet(4, " + i + ")", AIOOBE, x -> octet(x, 4, i));
        }
        for (int r : new int[] {-1, 4, MIN, MAX}) {
            refuses("19 resource(" + r + ", 0)", AIOOBE, x -> resource(x, r, 0));
        }
        for (int i : new int[] {-1, 100, MIN, MAX}) {
            refuses("19 resource(0, " + i + ")", AIOOBE, x -> resource(x, 0, i));
        }
    }

    // Promises 4, 7, 15 to 20: none of these tells of a change, so there is none
    private void lookedAtInEachState() {
        for (int k = 0; k <= 5; k++) {
            int n = k;
            looks("4 octet(" + n + ", 0)", x -> octet(x, n, 0));
            looks("7 judge(" + n + ")", x -> x.judge(n));
            looks("15 mirror(0, " + n + ")", x -> x.mirror(0, n));
            looks("16 message(0, " + n + ")", x -> x.message(0, n));
            looks("17 told(0, " + n + ")", x -> x.told(0, n));
            looks("18 cell(" + n + ")", x -> cell(x, n));
            looks("19 resource(" + n + ", 0)", x -> resource(x, n, 0));
        }
        for (int k = 0; k <= 13; k++) {
            int what = k;
            looks("20 about(" + what + ")", x -> x.about(what));
        }
    }

    // Terms: "UNKNOWN (a number names nothing)": nothing is there yet, so 0 names nothing
    private static void refusedOfNew(RefusalsTest on) {
        on.refuses("4 octet(0, 0)", AIOOBE, x -> octet(x, 0, 0));
        on.refuses("5 plant(0, 0, 1)", UNKNOWN, x -> x.plant(0, 0, 1));
        on.refuses("8 define(0)", -11, x -> x.define(0));
        on.refuses("10 marks(0, 1)", UNKNOWN, x -> x.marks(0, 1));
        on.refuses("11 anew()", 0, PlugRounds::anew);
        on.refuses("15 mirror(0, 0)", UNKNOWN, x -> x.mirror(0, 0));
        on.refuses("16 message(0, 0)", UNKNOWN, x -> x.message(0, 0));
        on.refuses("17 told(0, 0)", UNKNOWN, x -> x.told(0, 0));
        on.refuses("18 cell(0)", NPE, x -> cell(x, 0));
        on.refuses("18 cell(5)", NPE, x -> cell(x, 5));
        on.refuses("19 resource(0, 0)", AIOOBE, x -> resource(x, 0, 0));
        on.refuses("21 clear()", 0, PlugRounds::clear);
    }

    // Terms: "Refusals are answers", "They change nothing": beside what is there
    private static void refusedOfUsed(RefusalsTest on) {
        on.refuses("2 feed(5, ..) of 60 bytes", FULL, x -> x.feed(5, -1));
        on.refuses("2 feed(8, ..) of 60 bytes", FULL, x -> x.feed(8, -1));
        on.refuses("4 octet(0, 12)", AIOOBE, x -> octet(x, 0, 12));
        on.refuses("5 plant(0, 12, 1)", UNKNOWN, x -> x.plant(0, 12, 1));
        on.refuses("5 plant(0, 11, 256)", OUTSIDE, x -> x.plant(0, 11, 256));
        on.refuses("5 plant(0, 0, -1)", OUTSIDE, x -> x.plant(0, 0, -1));
        on.refuses("8 define(1) that breaks CLAUSE 6", -16, x -> x.define(1));
        on.refuses("8 define(2) that is GONE", GONE, x -> x.define(2));
        on.refuses("8 define(4) that is empty", -11, x -> x.define(4));
        on.refuses("9 unit(10, 1)", STATE, x -> x.unit(10, 1));
        on.refuses("9 unit(51, 1) that was MADE", STATE, x -> x.unit(51, 1));
        on.refuses("9 unit(10, 256)", OUTSIDE, x -> x.unit(10, 256));
        on.refuses("10 marks(6, 1)", UNKNOWN, x -> x.marks(6, 1));
        on.refuses("10 marks(0, 256)", OUTSIDE, x -> x.marks(0, 256));
        on.refuses("10 marks(0, -1)", OUTSIDE, x -> x.marks(0, -1));
        on.refuses("15 mirror(6, 0)", UNKNOWN, x -> x.mirror(6, 0));
        on.refuses("15 mirror(0, 5)", OUTSIDE, x -> x.mirror(0, 5));
        on.refuses("16 message(0, 5)", OUTSIDE, x -> x.message(0, 5));
        on.refuses("17 told(3, 0)", UNKNOWN, x -> x.told(3, 0));
        on.refuses("17 told(0, 4)", OUTSIDE, x -> x.told(0, 4));
        on.refuses("18 cell(3)", NPE, x -> cell(x, 3));
        on.refuses("19 resource(2, 0)", AIOOBE, x -> resource(x, 2, 0));
    }

    // Terms: "STATE, FULL", "They change nothing": where there is no room left
    private static void refusedOfFilled(RefusalsTest on) {
        for (int k = 1; k <= 8; k++) {
            int n = k;
            on.refuses("2 feed(" + n + ", ..) of 64 bytes", FULL, x -> x.feed(n, -1));
        }
        on.refuses("4 octet(4, 64)", AIOOBE, x -> octet(x, 4, 64));
        on.refuses("5 plant(4, 64, 1)", UNKNOWN, x -> x.plant(4, 64, 1));
        on.refuses("5 plant(4, 63, 256)", OUTSIDE, x -> x.plant(4, 63, 256));
        on.refuses("8 define(0) of a seventh", FULL, x -> x.define(0));
        on.refuses("8 define(3), not FAILED yet", FULL, x -> x.define(3));
        on.refuses("8 define(2) that breaks CLAUSE 3", -13, x -> x.define(2));
        on.refuses("9 unit(50, 1) of 41", FULL, x -> x.unit(50, 1));
        on.refuses("9 unit(0, 1)", STATE, x -> x.unit(0, 1));
        on.refuses("9 unit(39, 256)", OUTSIDE, x -> x.unit(39, 256));
        on.refuses("10 marks(39, 256)", OUTSIDE, x -> x.marks(39, 256));
        on.refuses("15 mirror(39, 5)", OUTSIDE, x -> x.mirror(39, 5));
        on.refuses("16 message(119, 5)", OUTSIDE, x -> x.message(119, 5));
        on.refuses("17 told(5, 4)", OUTSIDE, x -> x.told(5, 4));
        on.refuses("19 resource(1, 0)", AIOOBE, x -> resource(x, 1, 0));
    }
}
