import java.util.Random;

/**
 * The document's first sentence, part by part, the sentences that no other test is of alone, and those that its notes
 * had been unsure of.
 */
public final class WholeTest extends Check {
    private static final int MANY_CALLS = 20000;
    private static final int[] WILD = {MIN, MIN + 1, -1, 0, 1, 2, 3, 4, 5, 6, 7, 8, 9, 12, 13, 39, 40, 63, 64, 99, 100, 119,
        120, 255, 256, 100000, 100001, MAX};

    public static void main(String[] args) {
        whatItIs();
        soundOrNot();
        latestRuns();
        claimsOfTheStopped();
        thrown();
        end("WholeTest");
    }

    private static void whatItIs() {
        judgedClauseByClause();
        startedOnce();
        runOverWhatIsNew();
        whatTheyClaimMakeTellAndWrite();
        whatTheyMayNotChange();
        thoseThatThrow();
        stepsThatAreBounded();
        refusedLeavesThingsAsTheyWere();
    }

    private static void soundOrNot() {
        soundOrBreaksAClause();
        definedOfSoundFilesAlone();
        startThatFailsMakesNone();
        eachDefinitionIsOneMore();
        unitAnswersItsNumber();
    }

    private static void latestRuns() {
        toldOfARefusedRunStays();
        toldOfASpentRunStays();
        aRunOverNothingIsTheLatest();
        clearForgetsNoRun();
        messageOfAUnitThatWentStays();
    }

    private static void claimsOfTheStopped() {
        claimOfAStoppedOneStays();
        claimOfAStoppedOneIsOfItsRound();
        claimBehindThrowIsNotMade();
    }

    private static void thrown() {
        nothingElseReachesTheCaller();
        objectsAreApart();
    }

    // What it is: "judged clause by clause": each one that is mended shows the next
    private static void judgedClauseByClause() {
        PlugRounds x = new PlugRounds();
        lay(x, 0, 0, 0, 0);
        due("judge of 3 bytes", x.judge(0), 1);
        lay(x, 0, 0, 0, 0, 0, 0, 10, 0, 0, 0);
        due("judge of 9 bytes", x.judge(0), 2);
        x.plant(0, 0, 80);
        due("judge with 80", x.judge(0), 2);
        x.plant(0, 1, 82);
        due("judge with 80, 82", x.judge(0), 3);
        x.plant(0, 2, 1);
        due("judge with one RULE", x.judge(0), 4);
        lay(x, 0, 80, 82, 1, 0, 10, 0, 0, 0);
        due("judge of 8 bytes", x.judge(0), 5);
        x.plant(0, 4, 10 ^ ADD);
        due("judge with an ACT", x.judge(0), 6);
        x.plant(0, 7, 80 + 82 + 1 + ADD);
        due("judge with the sum", x.judge(0), 0);
    }

    // What it is: "started once": when it is DEFINED, and in no RUN behind that
    private static void startedOnce() {
        PlugRounds x = with(0, ADD, 1, 0);
        x.fails(5, true);
        for (int k = 1; k <= 3; k++) {
            x.unit(k, 1);
            due("run " + k, x.run(9), 1);
            due("cell behind run " + k, cell(x, 0), k);
        }
        due("no RUN has tried the START", x.define(5), FAILED);
        due("define did", x.define(5), GONE);
        x.anew();
        due("the one that is DEFINED runs on", x.run(9), 1);
        due("its CELL", cell(x, 0), 6);
    }

    // What it is: "run in rounds over what is new"; Terms 2: "A RUN is made in ROUNDS."
    private static void runOverWhatIsNew() {
        PlugRounds x = with(0, TELL, 0, 0, 0, MAKE, 1, 2, 1, TELL, 1, 0, 1, MAKE, 2, 4, 2, TELL, 2, 0);
        x.unit(0, 1);
        due("three ROUNDS", x.run(9), 3);
        dueMessages(x, row(0, 0, 0, 0, 1), row(0, 0, 1, 1, 2), row(0, 0, 2, 2, 3));
        due("nothing is NEW", x.run(9), 0);
        due("and nothing is told", x.about(2), 3);
        x.marks(2, 4);
        due("one is NEW", x.run(9), 1);
        due("and is told of", x.about(2), 4);
        dueMessage(x, 3, 0, 0, 2, 2, 1);
    }

    // What it is: "what they claim, make, tell, write"
    private static void whatTheyClaimMakeTellAndWrite() {
        PlugRounds x = with(0, CLAIM, 0, 0, 0, MAKE, 7, 0, 0, TELL, 9, 2, 0, WRITE, 2, 11);
        plug(x, 0, TELL, 1, 1, 1, WRITE, 2, 12);
        x.unit(5, 3);
        due("run", x.run(5), 2);
        dueUnit(x, 1, 7, 0, 0, 0, 1);
        dueMessages(x, row(2, 0, 5, 9, 1));
        dueBytes("WRITE", x, 2, 11, 12);
    }

    // What it is: "what they may not change": the UNIT and all else is as it was, and the RUN goes on
    private static void whatTheyMayNotChange() {
        PlugRounds x = with(0, CHANGE, 255, 255, 0, CHANGE, 0, 0, END, CHANGE, 3, 4);
        x.unit(5, 1);
        x.option(3, 8);
        String ahead = kept(x);
        due("run", x.run(3), 1);
        dueMessages(x, row(6, 0, 5, 255, 1), row(6, 0, 5, 0, 1), row(6, 0, NONE, 3, 2));
        dueUnit(x, 0, 5, 1, 0, NONE, 0);
        due("OPTION 3", x.option(3, 8), 8);
        x.anew();
        holds("all is as it was", kept(x).equals(ahead));
    }

    // What it is: "those that throw": by its words, one that THROWS is STOPPED, the others go on if that does PASS
    private static void thoseThatThrow() {
        PlugRounds x = with(0, THROW, 1, 0, 0, TELL, 2, 0);
        plug(x, 0, TELL, 3, 0);
        x.unit(5, 1);
        due("not PASSED", x.run(9), REFUSED);
        dueMessages(x, row(5, 0, 5, 1, 1));
        x.pass(true);
        due("PASSED", x.run(9), 1);
        dueMessages(x, row(5, 0, 5, 1, 1), row(5, 0, 5, 1, 1), row(0, 1, 5, 3, 1));
    }

    // What it is: "steps that are bounded": a RUN never takes more than its n, and is made with n as soon as they do
    private static void stepsThatAreBounded() {
        PlugRounds x = with(0, TELL, 0, 0, 0, WORK, 3, 4, 0, MAKE, 9, 2, 1, ADD, 1, 0, END, WRITE, 0, 1);
        x.unit(0, 1);
        for (int n = 0; n < 17; n++) {
            due("run(" + n + ")", x.run(n), SPENT);
            holds("STEPS of run(" + n + ")", x.about(4) <= n);
            due("all STEPS are its PROCESSOR's", x.told(0, 3), x.about(4));
        }
        due("run(17)", x.run(17), 2);
        due("STEPS of run(17)", x.about(4), 17);
    }

    // What it is: "a run that is refused leaves things as they were."
    private static void refusedLeavesThingsAsTheyWere() {
        PlugRounds x = with(0, ADD, 5, 0, 0, WRITE, 1, 6, 0, MAKE, 9, 0, END, MAKE, 10, 0);
        plug(x, 1, ADD, 7, 0, END, WRITE, 3, 3, END, THROW, 0, 0);
        x.unit(0, 1);
        x.pass(true);
        due("made", x.run(99), 2);
        x.pass(false);
        x.unit(1, 3);
        String ahead = kept(x);
        due("REFUSED", x.run(99), REFUSED);
        holds("it is as it was", kept(x).equals(ahead));
    }

    // Terms 1: "A FILE is SOUND, or breaks a CLAUSE": so judge and define are at one for whatever bytes
    private static void soundOrBreaksAClause() {
        Random random = new Random(4);
        int[] sound = rules(0, MAKE, 63, 255, END, TELL, 255, 2, 7, ASK, 3, 0);
        int[] found = new int[7];
        for (int k = 0; k < 3000; k++) {
            PlugRounds x = new PlugRounds();
            int[] bytes = java.util.Arrays.copyOf(sound, random.nextInt(4) > 0 ? sound.length : random.nextInt(65));
            for (int changes = random.nextInt(3); changes > 0 && bytes.length > 0; changes--) {
                bytes[random.nextInt(bytes.length)] = random.nextInt(256);
            }
            lay(x, 3, bytes.length > 0 && random.nextInt(4) > 0 ? summed(bytes) : bytes);
            int clause = x.judge(3);
            holds("judge answers 0 .. 6", clause >= 0 && clause <= 6);
            due("define behind judge", x.define(3), clause == 0 ? 0 : -10 - clause);
            found[Math.max(0, Math.min(clause, 6))]++;
        }
        for (int clause = 0; clause <= 6; clause++) {
            holds("there was a FILE of CLAUSE " + clause, found[clause] > 0);
        }
    }

    // Terms 1: "are DEFINED of SOUND FILES": of no other ones, so that no PROCESSOR comes and no number is lost
    private static void definedOfSoundFilesAlone() {
        PlugRounds x = new PlugRounds();
        lay(x, 0, rules(0, ADD, 1, 0));
        for (int clause = 1; clause <= 6; clause++) {
            lay(x, 1, broken(clause));
            due("define of CLAUSE " + clause, x.define(1), -10 - clause);
            due("PROCESSORS", x.about(1), clause - 1);
            due("define of a SOUND one", x.define(0), clause - 1);
        }
        due("PROCESSORS", x.about(1), 6);
    }

    private static int[] broken(int clause) {
        switch (clause) {
            case 1:
                return row(80, 82, 1);
            case 2:
                return summed(82, 80, 1, 0, ADD, 1, 0, 0);
            case 3:
                return summed(80, 82, 0, 0, ADD, 1, 0, 0);
            case 4:
                return summed(80, 82, 2, 0, ADD, 1, 0, 0);
            case 5:
                return summed(80, 82, 1, 8, ADD, 1, 0, 0);
            default:
                return row(80, 82, 1, 0, ADD, 1, 0, 0);
        }
    }

    // Terms 1: "A FILE's START may fail: then it can not be DEFINED": no PROCESSOR comes, neither FAILED nor GONE
    private static void startThatFailsMakesNone() {
        PlugRounds x = with(0, ADD, 1, 0);
        x.fails(5, true);
        due("FAILED", x.define(5), FAILED);
        due("PROCESSORS", x.about(1), 1);
        due("GONE", x.define(5), GONE);
        due("PROCESSORS", x.about(1), 1);
        due("no PROCESSOR 1", x.told(1, 0), UNKNOWN);
        due("no CELL 1", cell(x, 1), NPE);
        x.unit(0, 1);
        due("run", x.run(9), 1);
        due("STEPS of PROCESSOR 0 alone", x.about(4), 1);
    }

    // Promise 8: "A FILE is DEFINED: the PROCESSOR's number": each time another one, with a CELL of its own
    private static void eachDefinitionIsOneMore() {
        PlugRounds x = with(0, ADD, 1, 0);
        x.unit(0, 1);
        x.run(9);
        due("the same FILE again", x.define(5), 1);
        due("the CELL of the first", cell(x, 0), 1);
        due("the CELL of the second", cell(x, 1), 0);
        x.anew();
        x.run(9);
        due("the CELL of the first", cell(x, 0), 2);
        due("the CELL of the second", cell(x, 1), 1);
    }

    // Promise 9: "A UNIT: its number.": by which it is asked for, also behind UNITS that were MADE
    private static void unitAnswersItsNumber() {
        PlugRounds x = with(0, MAKE, 60, 2, END, MAKE, 61, 4);
        due("the first", x.unit(30, 1), 0);
        x.run(9);
        int unit = x.unit(20, 8);
        due("behind two that were MADE", unit, 3);
        dueUnit(x, unit, 20, 8, 1, NONE, 0);
        due("its MARKS", x.marks(unit, 16), 8);
        due("its new MARKS", x.mirror(unit, 1), 16);
    }

    // Promise 17: "whether the latest RUN STOPPED it (2), how many STEPS it took in that (3)"; Terms 2: "Behind a RUN
    // that is SPENT or REFUSED UNITS, which ones are NEW, CELLS, RESOURCES are as ahead of it": those are not among them
    private static void toldOfARefusedRunStays() {
        PlugRounds x = with(0, ADD, 1, 0, 0, WORK, 2, 2);
        plug(x, 0, ADD, 1, 0, 0, THROW, 0, 0);
        plug(x, 0, ADD, 1, 0);
        x.unit(0, 1);
        due("REFUSED", x.run(99), REFUSED);
        int[][] want = {{0, 6}, {1, 2}, {0, 0}};
        for (int p = 0; p < 3; p++) {
            due("STOPPED " + p, x.told(p, 2), want[p][0]);
            due("STEPS of " + p, x.told(p, 3), want[p][1]);
            due("CELL of " + p, cell(x, p), 0);
        }
        due("STEPS of all", x.about(4), 8);
    }

    // Promise 17: "whether the latest RUN STOPPED it (2), how many STEPS it took in that (3)": one that was STOPPED by a
    // RUN that is SPENT later is told so
    private static void toldOfASpentRunStays() {
        PlugRounds x = with(0, ADD, 1, 0, 0, THROW, 0, 0);
        plug(x, 0, ADD, 1, 0, 0, WORK, 10, 10);
        x.pass(true);
        x.unit(0, 1);
        due("SPENT", x.run(50), SPENT);
        due("STOPPED 0", x.told(0, 2), 1);
        due("STEPS of 0", x.told(0, 3), 2);
        due("STOPPED 1", x.told(1, 2), 0);
        due("STEPS of 1", x.told(1, 3), 2);
        due("CELL of 0", cell(x, 0), 0);
        due("STEPS of all", x.about(4), 4);
    }

    // Terms 2: "(if ROUND 1 had none, there is no END)"; Promise 14: "how many ROUNDS (that had UNITS)": it is a RUN too
    private static void aRunOverNothingIsTheLatest() {
        PlugRounds x = with(0, MAKE, 9, 1, 0, THROW, 0, 0, END, TELL, 0, 0);
        x.pass(true);
        x.unit(0, 1);
        due("made", x.run(99), 2);
        due("STOPPED", x.told(0, 2), 1);
        due("STEPS", x.about(4), 2);
        due("MADE", x.about(6), 1);
        due("over nothing, with no STEPS", x.run(0), 0);
        due("not STOPPED", x.told(0, 2), 0);
        due("its STEPS", x.told(0, 3), 0);
        for (int what = 4; what <= 6; what++) {
            due("about(" + what + ")", x.about(what), 0);
        }
    }

    // Promise 21: "There are no UNITS, PROCESSORS, MESSAGES, RESOURCES are empty; all else stays": of a RUN that was
    // SPENT, and of one that was REFUSED
    private static void clearForgetsNoRun() {
        PlugRounds x = with(0, MAKE, 9, 2, 1, TELL, 0, 0, 2, THROW, 0, 0);
        x.unit(0, 1);
        due("SPENT", x.run(1), SPENT);
        due("clear", x.clear(), 1);
        due("STEPS of the SPENT one", x.about(4), 1);
        due("ROUNDS of the SPENT one", x.about(5), 2);
        due("MADE by the SPENT one", x.about(6), 0);
        x.define(5);
        x.unit(0, 4);
        due("REFUSED", x.run(9), REFUSED);
        due("clear", x.clear(), 1);
        due("STEPS of the REFUSED one", x.about(4), 1);
        due("ROUNDS of the REFUSED one", x.about(5), 1);
        due("MADE by the REFUSED one", x.about(6), 0);
    }

    // Terms 2: "MESSAGES stay"; Promise 16: "UNIT's NAME (2; NONE)": also when a UNIT with another NAME has its number,
    // and when clear has not been called but the NAME is free again
    private static void messageOfAUnitThatWentStays() {
        PlugRounds x = with(0, MAKE, 33, 2, 1, TELL, 4, 1, 1, THROW, 5, 0);
        x.unit(0, 1);
        due("REFUSED", x.run(9), REFUSED);
        due("the UNIT went", x.mirror(1, 0), UNKNOWN);
        dueMessages(x, row(1, 0, 33, 4, 2), row(5, 0, 33, 5, 2));
        due("another one has its number", x.unit(44, 0), 1);
        dueMessages(x, row(1, 0, 33, 4, 2), row(5, 0, 33, 5, 2));
        due("its NAME is free", x.unit(33, 0), 2);
        dueMessages(x, row(1, 0, 33, 4, 2), row(5, 0, 33, 5, 2));
    }

    // Terms 2: "the MARK is CLAIMED in this ROUND", "the PROCESSOR is STOPPED (for this RUN, at once)"
    private static void claimOfAStoppedOneStays() {
        PlugRounds x = with(0, CLAIM, 0, 0, 0, THROW, 1, 0);
        plug(x, 0, TELL, 2, 0, 1, TELL, 3, 0);
        plug(x, 0, CLAIM, 0, 0, 0, TELL, 4, 0);
        x.pass(true);
        x.unit(5, 1);
        x.unit(6, 3);
        due("run", x.run(99), 1);
        dueMessages(x, row(5, 0, 5, 1, 1), row(0, 1, 6, 3, 1));
        due("STEPS", x.about(4), 3);
    }

    // Terms 2: "the MARK is CLAIMED in this ROUND": in the next one it is free, as the STOPPED one does not meet it
    private static void claimOfAStoppedOneIsOfItsRound() {
        PlugRounds x = with(0, CLAIM, 0, 0, 0, MAKE, 9, 1, 0, THROW, 1, 0);
        plug(x, 0, TELL, 2, 0);
        x.pass(true);
        x.unit(5, 1);
        due("run", x.run(99), 2);
        dueMessages(x, row(5, 0, 5, 1, 1), row(0, 1, 9, 2, 2));
    }

    // Terms 2: "the PROCESSOR is STOPPED (for this RUN, at once)": a CLAIM behind the THROW is not done any more
    private static void claimBehindThrowIsNotMade() {
        PlugRounds x = with(0, THROW, 1, 0, 0, CLAIM, 0, 0);
        plug(x, 0, TELL, 2, 0);
        x.pass(true);
        x.unit(5, 1);
        due("run", x.run(99), 1);
        dueMessages(x, row(5, 0, 5, 1, 1), row(0, 1, 5, 2, 1));
    }

    // LANGUAGE.md, rule 6: "A call of the face throws exactly what and where the document says, and nothing else ever
    // reaches its caller."; rule 7: "for any arguments in any state": so behind the 512th call, too, though what is
    // answered there is free
    private static void nothingElseReachesTheCaller() {
        Random random = new Random(9);
        PlugRounds x = with(0, MAKE, 9, 255, 1, WRITE, 0, 1, 2, ADD, 200, 0, END, MAKE, 10, 1, 3, TELL, 0, 0);
        String thrown = "";
        for (int k = 0; k < MANY_CALLS && thrown.isEmpty(); k++) {
            try {
                call(x, random);
            } catch (RuntimeException e) {
                thrown = "call " + k + " threw " + e;
            }
        }
        holds("nothing is thrown but what the document says: " + thrown, thrown.isEmpty());
    }

    /** One of all calls, with whatever arguments. */
    private static void call(PlugRounds x, Random random) {
        int a = WILD[random.nextInt(WILD.length)];
        int b = WILD[random.nextInt(WILD.length)];
        int c = WILD[random.nextInt(WILD.length)];
        switch (random.nextInt(20)) {
            case 0: x.feed(a, random.nextLong()); break;
            case 1: x.lay(a); break;
            case 2: mayThrow(octet(x, a, b), a, b, AIOOBE); break;
            case 3: x.plant(a, b, c); break;
            case 4: x.fails(a, b > c); break;
            case 5: x.judge(a); break;
            case 6: x.define(a == 5 ? 4 : 5); break;
            case 7: x.unit(a, b); break;
            case 8: x.marks(a, b); break;
            case 9: x.anew(); break;
            case 10: x.option(a, b); break;
            case 11: x.pass(a > b); break;
            case 12: x.run(a); break;
            case 13: x.mirror(a, b); break;
            case 14: x.message(a, b); break;
            case 15: x.told(a, b); break;
            case 16: mayThrow(cell(x, a), a, 0, a >= 0 && a <= 5 ? NPE : AIOOBE); break;
            case 17: mayThrow(resource(x, a, b), a, b, AIOOBE); break;
            case 18: x.about(a); break;
            default: clearOrPlug(x, random); break;
        }
    }

    /** More often it gets a PROCESSOR, so that there is something to go wrong. */
    private static void clearOrPlug(PlugRounds x, Random random) {
        if (random.nextInt(10) == 0) {
            x.clear();
            return;
        }
        x.lay(4);
        plug(x, random.nextInt(8), random.nextInt(10), random.nextInt(4), random.nextInt(3), random.nextInt(8), MAKE,
            random.nextInt(64), random.nextInt(256), END, random.nextInt(10), random.nextInt(4), random.nextInt(3));
    }

    private static void mayThrow(int got, int a, int b, int exception) {
        boolean isThrown = got == AIOOBE || got == NPE || got == OTHER;
        due("what is thrown for " + a + ", " + b, isThrown ? got : exception, exception);
    }

    // LANGUAGE.md, rule 13: "the same calls always give the same answers": whatever is done to others between them
    private static void objectsAreApart() {
        PlugRounds alone = story(null);
        PlugRounds beside = story(new PlugRounds());
        holds("one that another one is used beside", all(beside).equals(all(alone)));
    }

    private static PlugRounds story(PlugRounds other) {
        PlugRounds x = new PlugRounds();
        disturb(other, 1);
        lay(x, 0, rules(0, TELL, 1, 0, 0, MAKE, 9, 2, 1, WRITE, 0, 7, END, ASK, 0, 0));
        disturb(other, 2);
        x.define(0);
        x.option(0, 77);
        disturb(other, 3);
        x.unit(3, 1);
        x.unit(4, 3);
        disturb(other, 4);
        x.run(50);
        disturb(other, 5);
        x.marks(0, 2);
        return x;
    }

    private static void disturb(PlugRounds other, int k) {
        if (other != null) {
            plug(other, 0, MAKE, 10 + k, 1, 0, WRITE, 0, k, END, TELL, k, 2);
            other.feed(8, -1);
            other.lay(k);
            other.option(0, -k);
            other.pass(k % 2 == 0);
            other.unit(k, 255);
            other.run(40 * k);
        }
    }
}
