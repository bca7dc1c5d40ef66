/** At least one look at each promise of the document, by its number. */
public final class PromisesTest {
    private static final int NONE = -1, UNKNOWN = -101, OUTSIDE = -102, STATE = -103, FULL = -104;
    private static final int FAILED = -31, GONE = -32, SPENT = -11, REFUSED = -12;
    private static final int END = Check.END, CLAIM = Check.CLAIM, MAKE = Check.MAKE, TELL = Check.TELL;
    private static final int ADD = Check.ADD, THROW = Check.THROW, WORK = Check.WORK, CHANGE = Check.CHANGE;
    private static final int WRITE = Check.WRITE, SKIP = Check.SKIP, ASK = Check.ASK;
    private static final int MIN = Integer.MIN_VALUE, MAX = Integer.MAX_VALUE;

    public static void main(String[] args) {
        promise1NewObject();
        promise2Feed();
        promise3Lay();
        promise4Octet();
        promise5Plant();
        promise6Fails();
        promise7Judge();
        promise8Define();
        promise9Unit();
        promise10Marks();
        promise11Anew();
        promise12Option();
        promise13Pass();
        promise14Refusals();
        promise14Rounds();
        promise14Claims();
        promise14Make();
        promise14Acts();
        promise14Throw();
        promise14Steps();
        promise14Skip();
        promise14GoesBack();
        promise14NewBehindIt();
        promise15Mirror();
        promise16Message();
        promise17Told();
        promise18Cell();
        promise19Resource();
        promise20About();
        promise21Clear();
        Check.end("PromisesTest");
    }

    private static void due(String call, int got, int want) {
        Check.due(call, got, want);
    }

    private static void unchanged(String call, PlugRounds x, String before) {
        Check.holds(call + " changes nothing", Check.all(x).equals(before));
    }

    private static void promise1NewObject() {
        PlugRounds x = new PlugRounds();
        for (int f = 0; f < 6; f++) {
            due("1 judge of an empty FILE", x.judge(f), 1);
            due("1 octet of an empty FILE", Check.octet(x, f, 0), Check.AIOOBE);
            due("1 START does not fail", x.fails(f, false), 0);
        }
        due("1 the TAPE is empty", x.lay(0), 0);
        for (int i = 0; i < 4; i++) {
            due("1 option", x.option(i, 1), 0);
            due("1 resource", Check.resource(x, i, 0), Check.AIOOBE);
            due("1 bytes of a RESOURCE", x.about(10 + i), 0);
        }
        for (int k = 0; k < 7; k++) {
            due("1 about " + k, x.about(k), 0);
        }
        due("1 THROW does not PASS", x.pass(true), 0);
        PlugRounds y = new PlugRounds();
        due("1 objects share nothing", y.pass(false), 0);
    }

    private static void promise2Feed() {
        PlugRounds x = new PlugRounds();
        for (int n : new int[] {0, 9, -1, MIN, MAX}) {
            due("2 feed(" + n + ")", x.feed(n, 1), OUTSIDE);
        }
        due("2 feed 8", x.feed(8, 0x8182838485868788L), 8);
        due("2 feed 3", x.feed(3, 0xFFFFFF01FE03L), 11);
        due("2 feed 1", x.feed(1, -1L), 12);
        due("2 lay", x.lay(0), 12);
        int[] want = {-127, -126, -125, -124, -123, -122, -121, -120, 1, -2, 3, -1};
        for (int i = 0; i < want.length; i++) {
            due("2 octet " + i, Check.octet(x, 0, i), want[i]);
        }
        for (int k = 1; k <= 7; k++) {
            due("2 feed on", x.feed(8, k), 8 * k);
        }
        due("2 feed 5", x.feed(5, 9), 61);
        due("2 feed 4 of 3", x.feed(4, 7), FULL);
        due("2 feed(9) of a full TAPE", x.feed(9, 7), OUTSIDE);
        due("2 feed 3 of 3", x.feed(3, 0x0A0B0C), 64);
        due("2 feed 1 of 0", x.feed(1, 7), FULL);
        due("2 lay 64", x.lay(1), 64);
        due("2 a refusal feeds nothing", Check.octet(x, 1, 61), 10);
        due("2 last", Check.octet(x, 1, 63), 12);
    }

    private static void promise3Lay() {
        PlugRounds x = new PlugRounds();
        Check.feedAll(x, 1, 2, 3);
        for (int f : new int[] {-1, 6, MIN, MAX}) {
            due("3 lay(" + f + ")", x.lay(f), UNKNOWN);
        }
        due("3 a refusal keeps the TAPE", x.feed(1, 4), 4);
        due("3 lay(5)", x.lay(5), 4);
        due("3 the TAPE is empty then", x.feed(1, 9), 1);
        due("3 the FILE is none of the TAPE", Check.octet(x, 5, 0), 1);
        due("3 lay(5) again", x.lay(5), 1);
        due("3 all of it is new", Check.octet(x, 5, 0), 9);
        due("3 nothing old behind it", Check.octet(x, 5, 1), Check.AIOOBE);
        due("3 lay of nothing", x.lay(5), 0);
        due("3 empty then", Check.octet(x, 5, 0), Check.AIOOBE);

        int[] sound = Check.rules(0, TELL, 0, 0);
        Check.lay(x, 0, sound);
        x.fails(0, true);
        due("3 FAILED", x.define(0), FAILED);
        due("3 GONE", x.define(0), GONE);
        Check.lay(x, 0, sound);
        due("3 laid anew its START does not fail", x.fails(0, true), 0);
        due("3 FAILED anew", x.define(0), FAILED);
        Check.lay(x, 0, sound);
        due("3 laid anew it is DEFINED", x.define(0), 0);
    }

    private static void promise4Octet() {
        PlugRounds x = new PlugRounds();
        Check.lay(x, 3, 0, 127, 128, 255);
        int[] want = {0, 127, -128, -1};
        for (int i = 0; i < want.length; i++) {
            due("4 octet " + i, Check.octet(x, 3, i), want[i]);
        }
        for (int i : new int[] {-1, 4, 64, MIN, MAX}) {
            due("4 octet(3, " + i + ")", Check.octet(x, 3, i), Check.AIOOBE);
        }
        for (int f : new int[] {-1, 6, MIN, MAX, 2}) {
            due("4 octet(" + f + ", 0)", Check.octet(x, f, 0), Check.AIOOBE);
        }
    }

    private static void promise5Plant() {
        PlugRounds x = new PlugRounds();
        Check.lay(x, 2, 0x0F, 0xF0);
        due("5 plant", x.plant(2, 0, 0xFF), 0xF0);
        due("5 octet", Check.octet(x, 2, 0), (byte) 0xF0);
        due("5 plant 0", x.plant(2, 1, 0), 0xF0);
        due("5 plant back", x.plant(2, 0, 0xFF), 0x0F);
        String before = Check.all(x);
        for (int f : new int[] {-1, 6, MIN, MAX, 1}) {
            due("5 plant file " + f, x.plant(f, 0, 256), UNKNOWN);
        }
        for (int i : new int[] {-1, 2, MIN, MAX}) {
            due("5 plant byte " + i, x.plant(2, i, -1), UNKNOWN);
        }
        for (int m : new int[] {-1, 256, MIN, MAX}) {
            due("5 plant mask " + m, x.plant(2, 0, m), OUTSIDE);
        }
        unchanged("5 a refusal", x, before);

        Check.lay(x, 0, Check.rules(0, TELL, 0, 0));
        x.fails(0, true);
        due("5 FAILED", x.define(0), FAILED);
        x.plant(0, 5, 0);
        due("5 plant does not lay anew", x.define(0), GONE);
    }

    private static void promise6Fails() {
        PlugRounds x = new PlugRounds();
        Check.lay(x, 1, Check.rules(0, TELL, 0, 0));
        due("6 it did not", x.fails(1, true), 0);
        due("6 it did", x.fails(1, true), 1);
        due("6 other FILES", x.fails(0, false), 0);
        due("6 FAILED", x.define(1), FAILED);
        due("6 GONE", x.define(1), GONE);
        due("6 GONE", x.define(1), GONE);
        due("6 as if it had not", x.fails(1, true), 1);
        due("6 FAILED anew", x.define(1), FAILED);
        due("6 it did, GONE or not", x.fails(1, false), 1);
        due("6 no longer", x.define(1), 0);
        due("6 it does not", x.fails(1, false), 0);
        for (int f : new int[] {-1, 6, MIN, MAX}) {
            due("6 fails(" + f + ")", x.fails(f, true), UNKNOWN);
        }
    }

    private static int judged(int... bytes) {
        PlugRounds x = new PlugRounds();
        Check.lay(x, 0, bytes);
        return x.judge(0);
    }

    private static int judgedRule(int mark, int act, int a, int b) {
        return judged(Check.rules(mark, act, a, b));
    }

    private static void promise7Judge() {
        PlugRounds x = new PlugRounds();
        for (int f : new int[] {-1, 6, MIN, MAX}) {
            due("7 judge(" + f + ")", x.judge(f), UNKNOWN);
        }
        due("7 no byte", judged(), 1);
        due("7 three bytes", judged(80, 82, 1), 1);
        due("7 three other bytes", judged(1, 2, 3), 1);
        due("7 begins wrong", judged(81, 82, 0, 0), 2);
        due("7 second is wrong", judged(80, 83, 0, 0), 2);
        due("7 no RULES", judged(80, 82, 0, 162), 3);
        due("7 13 RULES", judged(80, 82, 13, 0), 3);
        due("7 255 RULES", judged(80, 82, 255, 0), 3);
        due("7 too short", judged(80, 82, 1, 0, 0, 0, 0), 4);
        due("7 too long", judged(80, 82, 1, 0, 0, 0, 0, 0, 0), 4);
        due("7 12 RULES are too short", judged(80, 82, 12, 0), 4);
        due("7 sound", judgedRule(0, TELL, 0, 0), 0);
        due("7 clause 5 is told ahead of 6", judged(80, 82, 1, 8, 0, 0, 0, 0), 5);
        due("7 wrong sum", judged(80, 82, 1, 0, 0, 0, 0, 164), 6);
        due("7 right sum", judged(80, 82, 1, 0, 0, 0, 0, 163), 0);
        for (int mark = 0; mark < 256; mark++) {
            boolean good = mark < 8 || mark == END;
            due("7 MARK " + mark, judgedRule(mark, CLAIM, 0, 0), good ? 0 : 5);
        }
        for (int act = 0; act < 256; act++) {
            due("7 ACT " + act, judgedRule(0, act, 0, 0), act < 10 ? 0 : 5);
            if (act < 10) {
                judgeParts(act);
            }
        }
        judgeMany();
    }

    private static void judgeParts(int act) {
        int mostA = act == MAKE ? 63 : act == WRITE || act == ASK ? 3 : 255;
        int mostB = act == TELL ? 2 : 255;
        for (int v = 0; v < 256; v++) {
            due("7 ACT " + act + " a " + v, judgedRule(END, act, v, 0), v <= mostA ? 0 : 5);
            due("7 ACT " + act + " b " + v, judgedRule(7, act, 0, v), v <= mostB ? 0 : 5);
        }
    }

    private static void judgeMany() {
        for (int n = 1; n <= 12; n++) {
            int[] parts = new int[4 * n];
            java.util.Arrays.fill(parts, 3);
            due("7 " + n + " RULES", judged(Check.rules(parts)), 0);
            parts[4 * n - 4] = 9;
            due("7 the last of " + n + " RULES", judged(Check.rules(parts)), 5);
        }
    }

    private static void promise8Define() {
        PlugRounds x = new PlugRounds();
        int[] sound = Check.rules(0, ADD, 5, 0, END, TELL, 1, 1);
        for (int f : new int[] {-1, 6, MIN, MAX}) {
            due("8 define(" + f + ")", x.define(f), UNKNOWN);
        }
        due("8 clause 1", x.define(0), -11);
        Check.lay(x, 0, 1, 2, 3, 4);
        due("8 clause 2", x.define(0), -12);
        Check.lay(x, 0, 80, 82, 0, 4);
        due("8 clause 3", x.define(0), -13);
        Check.lay(x, 0, 80, 82, 1, 4);
        due("8 clause 4", x.define(0), -14);
        Check.lay(x, 0, Check.rules(0, 10, 0, 0));
        due("8 clause 5", x.define(0), -15);
        Check.lay(x, 0, 80, 82, 1, 0, 0, 0, 0, 0);
        due("8 clause 6", x.define(0), -16);
        Check.lay(x, 4, sound);
        x.fails(4, true);
        x.plant(4, 0, 1);
        due("8 the CLAUSE is ahead of START", x.define(4), -12);
        x.plant(4, 0, 1);
        due("8 FAILED", x.define(4), FAILED);
        due("8 GONE", x.define(4), GONE);
        due("8 none is DEFINED", x.about(1), 0);
        x.fails(4, false);
        due("8 DEFINED", x.define(4), 0);
        x.plant(4, 5, 1);
        due("8 RULES are as they were then", x.told(0, 1), 2);
        x.unit(1, 1);
        due("8 run", x.run(10), 1);
        due("8 RULE as it was then", Check.cell(x, 0), 5);
        x.plant(4, 5, 1);
        for (int p = 1; p < 6; p++) {
            due("8 DEFINED again", x.define(4), p);
            due("8 a CELL of its own", Check.cell(x, p), 0);
        }
        x.fails(4, true);
        due("8 FULL", x.define(4), FULL);
        due("8 CLAUSE ahead of FULL", x.define(1), -11);
        x.clear();
        due("8 FULL was ahead of START", x.define(4), FAILED);
        due("8 GONE then", x.define(4), GONE);
    }

    private static void promise9Unit() {
        PlugRounds x = new PlugRounds();
        due("9 first", x.unit(63, 255), 0);
        due("9 second", x.unit(0, 0), 1);
        Check.dueUnit(x, 0, 63, 255, 1, NONE, 0);
        Check.dueUnit(x, 1, 0, 0, 1, NONE, 0);
        for (int v : new int[] {-1, 64, MIN, MAX}) {
            due("9 NAME " + v, x.unit(v, 0), OUTSIDE);
        }
        for (int v : new int[] {-1, 256, MIN, MAX}) {
            due("9 MARKS " + v, x.unit(1, v), OUTSIDE);
            due("9 OUTSIDE ahead of STATE", x.unit(63, v), OUTSIDE);
        }
        due("9 STATE", x.unit(63, 1), STATE);
        due("9 refusals make none", x.about(0), 2);
        for (int k = 1; k < 39; k++) {
            due("9 more", x.unit(k, k), k + 1);
        }
        due("9 FULL", x.unit(50, 0), FULL);
        due("9 STATE ahead of FULL", x.unit(38, 0), STATE);
        due("9 OUTSIDE ahead of FULL", x.unit(64, 0), OUTSIDE);
        due("9 there are 40", x.about(0), 40);
    }

    private static void promise10Marks() {
        PlugRounds x = new PlugRounds();
        x.unit(3, 7);
        x.unit(4, 8);
        x.run(0);
        due("10 none is NEW", x.about(3), 0);
        String before = Check.all(x);
        for (int u : new int[] {-1, 2, 40, MIN, MAX}) {
            due("10 marks of " + u, x.marks(u, 256), UNKNOWN);
        }
        for (int v : new int[] {-1, 256, MIN, MAX}) {
            due("10 marks " + v, x.marks(1, v), OUTSIDE);
        }
        unchanged("10 a refusal", x, before);
        due("10 what they were", x.marks(1, 255), 8);
        Check.dueUnit(x, 1, 4, 255, 1, NONE, 0);
        Check.dueUnit(x, 0, 3, 7, 0, NONE, 0);
        due("10 the same ones", x.marks(0, 7), 7);
        Check.dueUnit(x, 0, 3, 7, 1, NONE, 0);
        due("10 of a NEW one", x.marks(1, 0), 255);
        due("10 both are NEW", x.about(3), 2);
    }

    private static void promise11Anew() {
        PlugRounds x = new PlugRounds();
        due("11 no UNITS", x.anew(), 0);
        x.unit(1, 1);
        x.unit(2, 1);
        due("11 all are NEW", x.anew(), 0);
        x.run(0);
        x.unit(3, 1);
        due("11 two were not", x.anew(), 2);
        due("11 all are", x.about(3), 3);
        due("11 again", x.anew(), 0);
        due("11 the RUN meets them", x.run(0), 1);
    }

    private static void promise12Option() {
        PlugRounds x = new PlugRounds();
        int[] values = {MIN, MAX, -1, 300};
        for (int i = 0; i < 4; i++) {
            due("12 first", x.option(i, values[i]), 0);
        }
        for (int i : new int[] {-1, 4, MIN, MAX}) {
            due("12 option(" + i + ")", x.option(i, 5), OUTSIDE);
        }
        for (int i = 0; i < 4; i++) {
            due("12 what it was", x.option(i, 7), values[i]);
        }
        Check.plug(x, 0, ASK, 2, 0);
        x.option(2, MIN);
        x.unit(1, 1);
        x.run(1);
        due("12 ASK", Check.cell(x, 0), MIN);
    }

    private static void promise13Pass() {
        PlugRounds x = new PlugRounds();
        Check.plug(x, 0, THROW, 0, 0);
        x.unit(1, 1);
        due("13 REFUSED", x.run(9), REFUSED);
        due("13 it did not", x.pass(true), 0);
        due("13 it did", x.pass(true), 1);
        due("13 goes on", x.run(9), 1);
        due("13 it did", x.pass(false), 1);
        x.anew();
        due("13 REFUSED anew", x.run(9), REFUSED);
        due("13 it did not", x.pass(false), 0);
    }

    private static void promise14Refusals() {
        PlugRounds x = new PlugRounds();
        Check.plug(x, 0, ADD, 1, 0, 0, MAKE, 9, 1);
        x.unit(1, 1);
        x.run(50);
        x.anew();
        String before = Check.all(x);
        for (int n : new int[] {-1, 100001, MIN, MAX}) {
            due("14 run(" + n + ")", x.run(n), OUTSIDE);
        }
        unchanged("14 run that is OUTSIDE", x, before);
        due("14 run(100000)", x.run(100000), 1);
        due("14 run without NEW ones", x.run(0), 0);
        due("14 its STEPS", x.about(4), 0);
        due("14 its ROUNDS", x.about(5), 0);
        due("14 STEPS of the PROCESSOR in it", x.told(0, 3), 0);
    }

    private static void promise14Rounds() {
        PlugRounds x = new PlugRounds();
        due("14 nothing at all", x.run(0), 0);
        Check.plug(x, 0, MAKE, 10, 2, 1, MAKE, 11, 4, 2, MAKE, 12, 0, 0, TELL, 1, 0, 2, TELL, 2, 0, END, TELL, 3, 2);
        Check.plug(x, 0, TELL, 4, 1, 1, TELL, 5, 1, 2, TELL, 6, 1, END, TELL, 7, 1);
        x.unit(1, 1);
        x.unit(2, 1);
        due("14 rounds", x.run(100), 4);
        int[][] want = {
            {0, 0, 1, 1, 1}, {3, 0, 2, 10, 1}, {0, 0, 2, 1, 1}, {1, 1, 1, 4, 1}, {1, 1, 2, 4, 1},
            {1, 1, 10, 5, 2}, {0, 0, 11, 2, 3}, {1, 1, 11, 6, 3}, {2, 0, NONE, 3, 5}, {1, 1, NONE, 7, 5}};
        due("14 messages", x.about(2), want.length);
        for (int i = 0; i < want.length; i++) {
            Check.dueMessage(x, i, want[i][0], want[i][1], want[i][2], want[i][3], want[i][4]);
        }
        Check.dueUnit(x, 2, 10, 2, 0, 0, 1);
        Check.dueUnit(x, 3, 11, 4, 0, 0, 2);
        Check.dueUnit(x, 4, 12, 0, 0, 0, 3);
        due("14 no END without a ROUND", x.run(100), 0);
        due("14 so no MESSAGE", x.about(2), want.length);
        x.marks(1, 128);
        due("14 a ROUND with nothing to do has an END", x.run(2), 1);
        Check.dueMessage(x, want.length, 2, 0, NONE, 3, 2);
        longestRun();
    }

    /**
     * 40 ROUNDS of one UNIT each. All UNITS have MARK 7, which counts them in the CELLS, and one of the MARKS 0 .. 6
     * in turn, which MAKES the next one; PROCESSOR p keeps out until 7 p of them have come.
     */
    private static void longestRun() {
        PlugRounds x = new PlugRounds();
        for (int p = 0; p < 6; p++) {
            int[] parts = new int[44];
            System.arraycopy(new int[] {7, ADD, 1, 0, 7, SKIP, 7 * p + 1, 1, 7, SKIP, 0, 255}, 0, parts, 0, 12);
            for (int m = 0; m < 7; m++) {
                int[] rule = {m, MAKE, 7 * p + m + 1, 128 | 1 << (m + 1) % 7};
                System.arraycopy(rule, 0, parts, 12 + 4 * m, 4);
            }
            System.arraycopy(new int[] {END, WRITE, 0, p}, 0, parts, 40, 4);
            Check.plug(x, parts);
        }
        x.unit(0, 129);
        due("14 as many ROUNDS as UNITS", x.run(100000), 40);
        due("14 ROUNDS are told", x.about(5), 40);
        due("14 MADE in them", x.about(6), 39);
        for (int u = 1; u < 40; u++) {
            due("14 ROUND of " + u, x.mirror(u, 4), u);
            due("14 maker of " + u, x.mirror(u, 3), (u - 1) / 7);
            due("14 NAME of " + u, x.mirror(u, 0), u);
        }
        due("14 the END behind them", x.about(10), 6);
        due("14 none is NEW", x.about(3), 0);
    }

    private static void promise14Claims() {
        PlugRounds x = new PlugRounds();
        Check.plug(x, 1, TELL, 0, 0);
        Check.plug(x, 1, CLAIM, 0, 0, 1, TELL, 1, 0, 0, MAKE, 30, 2);
        Check.plug(x, 1, TELL, 2, 0, 2, TELL, 3, 0, 1, CLAIM, 0, 0);
        Check.plug(x, 1, TELL, 4, 0, END, CLAIM, 0, 0, END, TELL, 5, 0);
        x.unit(1, 2);
        x.unit(2, 7);
        due("14 run with CLAIMS", x.run(100), 2);
        int[][] want = {
            {0, 1, 0, 1}, {0, 2, 0, 1}, {1, 1, 1, 1}, {1, 2, 1, 1}, {2, 2, 3, 1},
            {0, 30, 0, 2}, {1, 30, 1, 2}, {3, NONE, 5, 3}};
        due("14 messages", x.about(2), want.length);
        for (int i = 0; i < want.length; i++) {
            Check.dueMessage(x, i, 0, want[i][0], want[i][1], want[i][2], want[i][3]);
        }
        claimsEndWithTheRound();
        claimOfOneThatThrew();
    }

    private static void claimsEndWithTheRound() {
        PlugRounds x = new PlugRounds();
        Check.plug(x, 0, CLAIM, 0, 0, 0, MAKE, 5, 3, 1, TELL, 0, 0);
        Check.plug(x, 0, TELL, 1, 0, 1, CLAIM, 0, 0);
        Check.plug(x, 1, TELL, 2, 0);
        x.unit(1, 1);
        x.unit(2, 2);
        due("14 claims by ROUND", x.run(100), 2);
        due("14 messages of it", x.about(2), 3);
        Check.dueMessage(x, 0, 0, 0, 2, 0, 1);
        Check.dueMessage(x, 1, 3, 0, 5, 5, 2);
        Check.dueMessage(x, 2, 0, 0, 5, 0, 2);
        PlugRounds y = new PlugRounds();
        Check.plug(y, 0, CLAIM, 0, 0, 0, MAKE, 5, 2);
        Check.plug(y, 0, TELL, 1, 0, 1, MAKE, 6, 1);
        Check.plug(y, 1, TELL, 2, 0);
        y.unit(1, 1);
        due("14 a MARK is free in the next ROUND", y.run(100), 3);
        Check.dueMessage(y, 0, 0, 2, 5, 2, 2);
        Check.dueMessage(y, 1, 3, 0, 6, 5, 3);
    }

    private static void claimOfOneThatThrew() {
        PlugRounds x = new PlugRounds();
        x.pass(true);
        Check.plug(x, 0, CLAIM, 0, 0, 0, THROW, 0, 0);
        Check.plug(x, 0, TELL, 0, 0, 1, MAKE, 2, 1);
        x.unit(1, 3);
        due("14 a CLAIM stays behind THROW", x.run(100), 2);
        due("14 messages behind it", x.about(2), 2);
        Check.dueMessage(x, 0, 5, 0, 1, 0, 1);
        Check.dueMessage(x, 1, 0, 1, 2, 0, 2);
    }

    private static void promise14Make() {
        PlugRounds x = new PlugRounds();
        Check.plug(x, 0, MAKE, 1, 0, 0, MAKE, 2, 255, 0, MAKE, 2, 0, END, MAKE, 3, 9, END, MAKE, 3, 8, END, MAKE, 63, 0);
        x.unit(1, 1);
        due("14 MAKE", x.run(100), 2);
        due("14 MADE", x.about(6), 3);
        Check.dueUnit(x, 1, 2, 255, 0, 0, 1);
        Check.dueUnit(x, 2, 3, 9, 1, 0, 3);
        Check.dueUnit(x, 3, 63, 0, 1, 0, 3);
        int[][] want = {
            {3, 1, 1, 1}, {3, 1, 2, 1}, {3, 2, 1, 2}, {3, 2, 2, 2}, {3, 2, 2, 2},
            {7, NONE, 3, 3}, {3, NONE, 3, 3}, {7, NONE, 63, 3}};
        due("14 messages of MAKE", x.about(2), want.length);
        for (int i = 0; i < want.length; i++) {
            Check.dueMessage(x, i, want[i][0], 0, want[i][1], want[i][2], want[i][3]);
        }
        makeWhenFull();
    }

    private static void makeWhenFull() {
        PlugRounds x = new PlugRounds();
        Check.plug(x, 0, MAKE, 60, 0, 0, MAKE, 61, 0, 0, MAKE, 60, 0, END, MAKE, 62, 0, END, MAKE, 0, 0);
        x.unit(0, 1);
        for (int k = 1; k < 39; k++) {
            x.unit(k, 0);
        }
        due("14 MAKE of the 40th", x.run(100), 2);
        due("14 one is MADE", x.about(6), 1);
        Check.dueUnit(x, 39, 60, 0, 0, 0, 1);
        due("14 messages", x.about(2), 4);
        Check.dueMessage(x, 0, 4, 0, 0, 61, 1);
        Check.dueMessage(x, 1, 3, 0, 0, 60, 1);
        Check.dueMessage(x, 2, 4, 0, NONE, 62, 3);
        Check.dueMessage(x, 3, 3, 0, NONE, 0, 3);
    }

    private static void promise14Acts() {
        PlugRounds x = new PlugRounds();
        Check.plug(x, 0, TELL, 200, 0, 0, TELL, 201, 1, 0, TELL, 202, 2, 0, CHANGE, 203, 77,
            1, ADD, 127, 9, 2, ADD, 128, 9, 3, ADD, 255, 9, 4, WRITE, 0, 255, 4, WRITE, 3, 0, END, WRITE, 0, 8,
            5, ASK, 3, 1);
        x.unit(0, 1);
        due("14 acts", x.run(5), 1);
        Check.dueMessage(x, 0, 0, 0, 0, 200, 1);
        Check.dueMessage(x, 1, 1, 0, 0, 201, 1);
        Check.dueMessage(x, 2, 2, 0, 0, 202, 1);
        Check.dueMessage(x, 3, 6, 0, 0, 203, 1);
        Check.dueUnit(x, 0, 0, 1, 0, NONE, 0);
        x.marks(0, 2);
        x.run(100);
        due("14 ADD 127", Check.cell(x, 0), 127);
        x.marks(0, 4);
        x.run(100);
        due("14 ADD 128", Check.cell(x, 0), -1);
        x.marks(0, 8);
        x.run(100);
        due("14 ADD 255", Check.cell(x, 0), -2);
        x.marks(0, 16);
        x.run(100);
        int[] want = {8, 8, 8, 8, 255, 8};
        for (int i = 0; i < want.length; i++) {
            due("14 WRITE " + i, Check.resource(x, 0, i), want[i]);
        }
        due("14 WRITE 3", Check.resource(x, 3, 0), 0);
        x.option(3, MAX);
        x.marks(0, 32);
        x.run(100);
        due("14 ASK", Check.cell(x, 0), MAX);
        x.marks(0, 2);
        x.run(100);
        due("14 the CELL wraps", Check.cell(x, 0), MAX + 127);
        x.option(3, MIN);
        x.marks(0, 40);
        x.run(100);
        due("14 RULES in order", Check.cell(x, 0), MIN);
        x.marks(0, 8);
        x.run(100);
        due("14 the CELL wraps below", Check.cell(x, 0), MAX);
        writeWhenFull();
        writeAtEnd();
    }

    private static void writeWhenFull() {
        PlugRounds x = new PlugRounds();
        int[] parts = new int[48];
        for (int r = 0; r < 12; r++) {
            parts[4 * r] = 0;
            parts[4 * r + 1] = WRITE;
            parts[4 * r + 2] = 1;
            parts[4 * r + 3] = 100 + r;
        }
        Check.plug(x, parts);
        for (int k = 0; k < 9; k++) {
            x.unit(k, 1);
        }
        due("14 WRITE of 108", x.run(108), 1);
        due("14 100 bytes", x.about(11), 100);
        due("14 the last one", Check.resource(x, 1, 99), 103);
        due("14 none behind it", Check.resource(x, 1, 100), Check.AIOOBE);
        due("14 MESSAGE 4 each", x.about(2), 8);
        Check.dueMessage(x, 0, 4, 0, 8, 1, 1);
        Check.dueMessage(x, 7, 4, 0, 8, 1, 1);
    }

    private static void writeAtEnd() {
        PlugRounds x = new PlugRounds();
        Check.plug(x, END, WRITE, 2, 1, 0, WRITE, 2, 2, END, WRITE, 2, 3, END, ASK, 0, 0, END, ADD, 4, 0);
        x.option(0, 50);
        x.unit(1, 1);
        due("14 END", x.run(5), 1);
        int[] want = {2, 1, 3};
        for (int i = 0; i < want.length; i++) {
            due("14 END in order " + i, Check.resource(x, 2, i), want[i]);
        }
        due("14 CELL at the END", Check.cell(x, 0), 54);
    }

    private static void promise14Throw() {
        PlugRounds x = new PlugRounds();
        x.pass(true);
        Check.plug(x, 0, MAKE, 20, 1, 0, THROW, 99, 0, 0, TELL, 0, 0, END, TELL, 1, 0);
        Check.plug(x, 0, TELL, 2, 0, END, THROW, 3, 0, END, TELL, 4, 0);
        Check.plug(x, END, TELL, 5, 0);
        x.unit(1, 1);
        x.unit(2, 1);
        due("14 THROW that does PASS", x.run(100), 2);
        int[][] want = {
            {5, 0, 1, 99, 1}, {0, 1, 1, 2, 1}, {0, 1, 2, 2, 1}, {0, 1, 20, 2, 2}, {5, 1, NONE, 3, 3}, {0, 2, NONE, 5, 3}};
        due("14 messages of THROW", x.about(2), want.length);
        for (int i = 0; i < want.length; i++) {
            Check.dueMessage(x, i, want[i][0], want[i][1], want[i][2], want[i][3], want[i][4]);
        }
        due("14 STOPPED", x.told(0, 2), 1);
        due("14 STOPPED at the END", x.told(1, 2), 1);
        due("14 not STOPPED", x.told(2, 2), 0);
        x.run(0);
        due("14 STOPPED for its RUN alone", x.told(0, 2), 0);
        x.pass(false);
        x.marks(0, 0);
        due("14 THROW at the END is REFUSED", x.run(100), REFUSED);
        due("14 not STOPPED by this RUN", x.told(0, 2), 0);
        due("14 STOPPED by this RUN", x.told(1, 2), 1);
        due("14 its ROUNDS", x.about(5), 1);
        due("14 behind REFUSED nothing is done", x.message(x.about(2) - 1, 0), 5);
    }

    private static void promise14Steps() {
        PlugRounds x = new PlugRounds();
        Check.plug(x, 0, CLAIM, 0, 0, 1, TELL, 0, 0, 0, WORK, 10, 20, END, CLAIM, 0, 0);
        Check.plug(x, 0, TELL, 0, 0, 2, TELL, 0, 0);
        x.unit(1, 1);
        due("14 too few", x.run(202), SPENT);
        due("14 STEPS", x.about(4), 202);
        due("14 too few for WORK", x.run(200), SPENT);
        due("14 STEPS without the WORK", x.about(4), 1 + 1);
        due("14 STEPS of the PROCESSOR", x.told(0, 3), 2);
        due("14 none for WORK", x.run(2), SPENT);
        due("14 none", x.run(0), SPENT);
        due("14 no STEPS", x.about(4), 0);
        due("14 but a ROUND", x.about(5), 1);
        due("14 it is still NEW", x.about(3), 1);
        due("14 just enough", x.run(203), 1);
        due("14 STEPS of all", x.about(4), 203);
        due("14 STEPS of it", x.told(0, 3), 203);
        due("14 STEPS of the other", x.told(1, 3), 0);
        x.marks(0, 128);
        due("14 END takes a STEP", x.run(0), SPENT);
        due("14 END takes one", x.run(1), 1);
        workOfNothing();
    }

    private static void workOfNothing() {
        PlugRounds x = new PlugRounds();
        Check.plug(x, 0, WORK, 0, 255, 0, WORK, 255, 0, 1, WORK, 255, 255);
        x.unit(1, 1);
        due("14 WORK of none", x.run(2), 1);
        x.marks(0, 2);
        due("14 most WORK", x.run(65026), 1);
        x.marks(0, 2);
        due("14 one too few", x.run(65025), SPENT);
        due("14 its STEPS", x.about(4), 1);
    }

    private static void promise14Skip() {
        PlugRounds x = new PlugRounds();
        Check.plug(x, 0, SKIP, 3, 2, 1, TELL, 1, 0, 0, TELL, 2, 0, 0, TELL, 3, 0, 0, ADD, 3, 0,
            END, SKIP, 3, 1, 5, TELL, 4, 0, END, SKIP, 255, 1, END, TELL, 5, 0);
        x.unit(1, 1);
        due("14 below", x.run(100), 1);
        due("14 nothing is passed over", x.about(2), 3);
        Check.dueMessage(x, 0, 0, 0, 1, 2, 1);
        Check.dueMessage(x, 1, 0, 0, 1, 3, 1);
        Check.dueMessage(x, 2, 0, 0, NONE, 5, 2);
        x.anew();
        due("14 the CELL is just a", x.run(100), 1);
        due("14 two are passed over", x.about(2), 5);
        Check.dueMessage(x, 3, 0, 0, 1, 3, 1);
        Check.dueMessage(x, 4, 0, 0, NONE, 5, 2);
        skipFar();
    }

    private static void skipFar() {
        PlugRounds x = new PlugRounds();
        Check.plug(x, 0, SKIP, 0, 255, 0, TELL, 1, 0, END, TELL, 2, 0);
        Check.plug(x, 0, SKIP, 0, 0, 0, TELL, 3, 0, 0, SKIP, 128, 1, 0, TELL, 4, 0, 0, ADD, 127, 0, 0, ADD, 1, 0);
        x.unit(1, 1);
        x.unit(2, 1);
        due("14 far", x.run(100), 1);
        due("14 SKIP is for its UNIT alone", x.about(2), 4);
        Check.dueMessage(x, 0, 0, 1, 1, 3, 1);
        Check.dueMessage(x, 1, 0, 1, 1, 4, 1);
        Check.dueMessage(x, 2, 0, 1, 2, 3, 1);
        Check.dueMessage(x, 3, 0, 0, NONE, 2, 2);
        PlugRounds y = new PlugRounds();
        Check.plug(y, 0, ADD, 255, 0, 0, SKIP, 0, 1, 0, TELL, 1, 0, 1, SKIP, 200, 1, 1, TELL, 2, 0);
        y.unit(1, 3);
        y.run(100);
        due("14 a CELL below 0 is less than a", y.about(2), 2);
    }

    private static void promise14GoesBack() {
        PlugRounds x = new PlugRounds();
        Check.plug(x, 0, ADD, 7, 0, 0, WRITE, 0, 8, 0, WRITE, 3, 9, 0, MAKE, 40, 2, 1, TELL, 5, 1, 2, THROW, 1, 0, 3, WORK, 255, 255,
            END, MAKE, 41, 0, END, ADD, 1, 0);
        x.unit(1, 1);
        x.unit(2, 0);
        due("14 a RUN that ends well", x.run(100), 2);
        due("14 two are MADE", x.about(6), 2);
        x.marks(1, 5);
        due("14 NEW ones", x.about(3), 2);
        goesBack(x, 100, REFUSED);
        x.marks(1, 9);
        goesBack(x, 100, SPENT);
        x.marks(1, 1);
        goesBack(x, 4, SPENT);
        x.clear();
        Check.plug(x, 0, MAKE, 9, 2, 1, TELL, 3, 0, 1, THROW, 0, 0);
        x.unit(1, 1);
        due("14 REFUSED in ROUND 2", x.run(100), REFUSED);
        due("14 ROUNDS of it", x.about(5), 2);
        due("14 the UNIT is gone", x.mirror(1, 0), UNKNOWN);
        Check.dueMessage(x, 0, 0, 0, 9, 3, 2);
        due("14 its NAME is free", x.unit(20, 0), 1);
        Check.dueMessage(x, 0, 0, 0, 9, 3, 2);
        due("14 its NAME is free", x.unit(9, 0), 2);
        Check.dueUnit(x, 2, 9, 0, 1, NONE, 0);
    }

    private static void goesBack(PlugRounds x, int n, int want) {
        String before = Check.kept(x);
        int messages = x.about(2);
        due("14 it is not done", x.run(n), want);
        Check.holds("14 all is as ahead of it", Check.kept(x).equals(before));
        due("14 none is MADE", x.about(6), 0);
        Check.holds("14 MESSAGES stay", x.about(2) >= messages);
    }

    private static void promise14NewBehindIt() {
        PlugRounds x = new PlugRounds();
        Check.plug(x, 0, MAKE, 10, 0, 0, MAKE, 11, 0, END, MAKE, 12, 1, END, MAKE, 13, 0);
        x.unit(1, 1);
        due("14 run", x.run(100), 2);
        int[] isNew = {0, 0, 0, 1, 1};
        for (int u = 0; u < isNew.length; u++) {
            due("14 NEW behind it " + u, x.mirror(u, 2), isNew[u]);
        }
        due("14 run over those", x.run(100), 1);
        due("14 none is MADE", x.about(6), 0);
        due("14 none is NEW", x.about(3), 0);
    }

    private static void promise15Mirror() {
        PlugRounds x = new PlugRounds();
        Check.plug(x, 7, TELL, 0, 0);
        Check.plug(x, 0, MAKE, 33, 128);
        x.unit(1, 1);
        x.run(100);
        Check.dueUnit(x, 0, 1, 1, 0, NONE, 0);
        Check.dueUnit(x, 1, 33, 128, 0, 1, 1);
        x.marks(1, 64);
        Check.dueUnit(x, 1, 33, 64, 1, 1, 1);
        for (int what : new int[] {-1, 5, MIN, MAX}) {
            due("15 what " + what, x.mirror(1, what), OUTSIDE);
        }
        for (int u : new int[] {-1, 2, 40, MIN, MAX}) {
            due("15 unit " + u, x.mirror(u, 0), UNKNOWN);
            due("15 UNKNOWN is ahead of OUTSIDE", x.mirror(u, 5), UNKNOWN);
        }
    }

    private static void promise16Message() {
        PlugRounds x = new PlugRounds();
        due("16 none", x.message(0, 0), UNKNOWN);
        int[] parts = new int[48];
        for (int r = 0; r < 12; r++) {
            parts[4 * r] = 0;
            parts[4 * r + 1] = TELL;
            parts[4 * r + 2] = 240 + r;
            parts[4 * r + 3] = r % 3;
        }
        Check.plug(x, parts);
        for (int k = 0; k < 9; k++) {
            x.unit(k + 50, 1);
        }
        due("16 run", x.run(1000), 1);
        due("16 messages", x.about(2), 108);
        Check.dueMessage(x, 107, 2, 0, 58, 251, 1);
        x.anew();
        due("16 on", x.run(1000), 1);
        due("16 then no more", x.about(2), 120);
        due("16 but all STEPS", x.about(4), 108);
        Check.dueMessage(x, 108, 0, 0, 50, 240, 1);
        Check.dueMessage(x, 119, 2, 0, 50, 251, 1);
        for (int i : new int[] {-1, 120, MIN, MAX}) {
            due("16 message " + i, x.message(i, 0), UNKNOWN);
            due("16 UNKNOWN is ahead of OUTSIDE", x.message(i, 9), UNKNOWN);
        }
        for (int what : new int[] {-1, 5, MIN, MAX}) {
            due("16 what " + what, x.message(119, what), OUTSIDE);
        }
    }

    private static void promise17Told() {
        PlugRounds x = new PlugRounds();
        Check.lay(x, 3, Check.rules(0, TELL, 0, 0, 0, WORK, 2, 3, 0, THROW, 0, 0, 0, TELL, 0, 0));
        Check.lay(x, 1, Check.rules(0, TELL, 0, 0));
        x.define(3);
        x.define(1);
        int[][] fresh = {{3, 4, 0, 0}, {1, 1, 0, 0}};
        toldIs(x, fresh);
        x.unit(1, 1);
        x.pass(true);
        due("17 run", x.run(100), 1);
        toldIs(x, new int[][] {{3, 4, 1, 9}, {1, 1, 0, 1}});
        x.define(1);
        due("17 not in that RUN", x.told(2, 3), 0);
        x.anew();
        x.pass(false);
        due("17 REFUSED", x.run(100), REFUSED);
        toldIs(x, new int[][] {{3, 4, 1, 9}, {1, 1, 0, 0}, {1, 1, 0, 0}});
        due("17 SPENT", x.run(8), SPENT);
        toldIs(x, new int[][] {{3, 4, 0, 8}, {1, 1, 0, 0}});
        for (int what : new int[] {-1, 4, MIN, MAX}) {
            due("17 what " + what, x.told(0, what), OUTSIDE);
        }
        for (int p : new int[] {-1, 3, 5, 6, MIN, MAX}) {
            due("17 processor " + p, x.told(p, 0), UNKNOWN);
            due("17 UNKNOWN is ahead of OUTSIDE", x.told(p, 4), UNKNOWN);
        }
        due("17 REFUSED", x.run(100), REFUSED);
        due("17 STOPPED ahead of clear", x.told(0, 2), 1);
        x.clear();
        due("17 none behind clear", x.told(0, 0), UNKNOWN);
        x.define(3);
        toldIs(x, new int[][] {{3, 4, 0, 0}});
    }

    private static void toldIs(PlugRounds x, int[][] want) {
        for (int p = 0; p < want.length; p++) {
            for (int k = 0; k < 4; k++) {
                due("17 told(" + p + ", " + k + ")", x.told(p, k), want[p][k]);
            }
        }
    }

    private static void promise18Cell() {
        PlugRounds x = new PlugRounds();
        for (int p : new int[] {-1, 6, MIN, MAX}) {
            due("18 cell(" + p + ")", Check.cell(x, p), Check.AIOOBE);
        }
        for (int p = 0; p < 6; p++) {
            due("18 cell of none", Check.cell(x, p), Check.NPE);
        }
        Check.plug(x, 0, ADD, 3, 0);
        Check.plug(x, 0, ADD, 253, 0);
        x.unit(1, 1);
        x.unit(2, 1);
        x.run(100);
        due("18 cell(0)", Check.cell(x, 0), 6);
        due("18 cell(1)", Check.cell(x, 1), -6);
        due("18 cell(2)", Check.cell(x, 2), Check.NPE);
        x.anew();
        x.run(100);
        due("18 it goes on", Check.cell(x, 0), 12);
        x.clear();
        due("18 none behind clear", Check.cell(x, 0), Check.NPE);
        x.define(5);
        due("18 0 at first", Check.cell(x, 0), 0);
    }

    private static void promise19Resource() {
        PlugRounds x = new PlugRounds();
        Check.plug(x, 0, WRITE, 0, 1, 0, WRITE, 3, 255, 0, WRITE, 3, 128);
        x.unit(1, 1);
        x.run(3);
        due("19 resource(0, 0)", Check.resource(x, 0, 0), 1);
        due("19 resource(3, 0)", Check.resource(x, 3, 0), 255);
        due("19 resource(3, 1)", Check.resource(x, 3, 1), 128);
        for (int i : new int[] {-1, 2, 99, 100, MIN, MAX}) {
            due("19 byte " + i, Check.resource(x, 3, i), Check.AIOOBE);
        }
        for (int r : new int[] {-1, 1, 2, 4, MIN, MAX}) {
            due("19 resource " + r, Check.resource(x, r, 0), Check.AIOOBE);
        }
    }

    private static void promise20About() {
        PlugRounds x = new PlugRounds();
        Check.plug(x, 0, MAKE, 9, 2, 0, WRITE, 1, 3, 0, WRITE, 1, 4, 0, WRITE, 2, 4, 1, TELL, 1, 1,
            END, MAKE, 10, 1, END, WRITE, 3, 0);
        x.unit(1, 1);
        x.unit(2, 0);
        due("20 run", x.run(100), 2);
        aboutIs(x, new int[] {4, 1, 2, 1, 7, 2, 2, OUTSIDE, OUTSIDE, OUTSIDE, 0, 2, 1, 1});
        for (int what : new int[] {-1, 14, 20, MIN, MAX, MIN + 10, MIN + 11}) {
            due("20 about(" + what + ")", x.about(what), OUTSIDE);
        }
        due("20 SPENT", x.run(3), SPENT);
        aboutIs(x, new int[] {4, 1, 3, 1, 3, 1, 0, OUTSIDE, OUTSIDE, OUTSIDE, 0, 2, 1, 1});
    }

    private static void aboutIs(PlugRounds x, int[] want) {
        for (int k = 0; k < want.length; k++) {
            due("20 about(" + k + ")", x.about(k), want[k]);
        }
    }

    private static void promise21Clear() {
        PlugRounds x = new PlugRounds();
        due("21 of nothing", x.clear(), 0);
        Check.plug(x, 0, MAKE, 9, 2, 0, WRITE, 1, 3, 0, TELL, 1, 1, 0, WRITE, 0, 3, 0, WRITE, 3, 3);
        x.unit(1, 1);
        x.run(100);
        x.option(2, 5);
        x.pass(true);
        Check.lay(x, 0, Check.rules(0, TELL, 0, 0));
        x.fails(0, true);
        x.define(0);
        x.feed(2, 7);
        due("21 how many UNITS", x.clear(), 2);
        aboutIs(x, new int[] {0, 0, 0, 0, 5, 2, 1, OUTSIDE, OUTSIDE, OUTSIDE, 0, 0, 0, 0});
        due("21 no UNITS", x.mirror(0, 0), UNKNOWN);
        due("21 no PROCESSORS", x.told(0, 0), UNKNOWN);
        due("21 no MESSAGES", x.message(0, 0), UNKNOWN);
        due("21 no bytes", Check.resource(x, 1, 0), Check.AIOOBE);
        due("21 OPTIONS stay", x.option(2, 5), 5);
        due("21 PASS stays", x.pass(true), 1);
        due("21 FILES stay", x.judge(5), 0);
        due("21 START stays", x.define(0), GONE);
        due("21 the TAPE stays", x.feed(1, 7), 3);
        due("21 numbers begin anew", x.define(5), 0);
        due("21 NAMES are free", x.unit(1, 1), 0);
        due("21 run anew", x.run(100), 2);
        due("21 bytes anew", Check.resource(x, 1, 0), 3);
        Check.dueMessage(x, 0, 1, 0, 1, 1, 1);
        due("21 again", x.clear(), 2);
        due("21 and again", x.clear(), 0);
    }
}
