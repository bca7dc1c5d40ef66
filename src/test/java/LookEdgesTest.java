/** What can be looked at, and clear, at their edges: MESSAGES in Terms 2, Promises 16 to 21, and an object's last call. */
public final class LookEdgesTest extends Check {
    public static void main(String[] args) {
        messages();
        tellings();
        cells();
        resources();
        abouts();
        clearing();
        theLastCallIsAnswered();
        end("LookEdgesTest");
    }

    private static void messages() {
        messageKnowsThoseThatCame();
        messageTakesFiveKinds();
        messageUnknownComesAheadOfOutside();
        messageOfTheHundredAndTwentieth();
        messagesThenNoMore();
        messagesOfAllKindsThenNoMore();
        messagesAreKeptOverRuns();
        messageAtTheEnd();
        messageKeepsItsName();
        messageOfAUnitThatIsGone();
        messageOfFirstAndLastProcessor();
    }

    private static void tellings() {
        toldKnowsProcessors();
        toldTakesFourKinds();
        toldUnknownComesAheadOfOutside();
        toldOfFileAndRules();
        toldOfTheLatestRun();
        toldOfOneThatWasNotInIt();
    }

    private static void cells() {
        cellOfNoNumber();
        cellOfNoProcessor();
        cellOfSix();
    }

    private static void resources() {
        resourceKnowsFour();
        resourceOfNoByte();
        resourceOfTheHundredth();
        resourceHasNoSign();
    }

    private static void abouts() {
        aboutTakesItsKinds();
        aboutOfNothing();
        aboutOfAllThatThereCanBe();
        aboutOfASpentRun();
        aboutOfARefusedRun();
        aboutOfARunOfNoRounds();
        aboutMadeInRoundsAndAtTheEnd();
        aboutOfEachResource();
    }

    private static void clearing() {
        clearOfNothing();
        clearOfAllThatThereCanBe();
        clearLeavesAllElse();
        clearLeavesTheLatestRun();
        clearBeginsAnew();
    }

    /** n MESSAGES in one RUN: what 0, PROCESSOR 0, ROUND 1, UNIT i / 12, a i % 12. */
    private static PlugRounds told(int n) {
        int[] parts = new int[0];
        for (int r = 0; r < 12; r++) {
            parts = join(parts, n % 12 > r ? 1 : 0, TELL, r, 0);
        }
        PlugRounds x = with(parts);
        units(x, 0, n / 12 - 1, 3);
        if (n % 12 != 0) {
            x.unit(n / 12, 2);
        }
        due("a RUN of " + n, x.run(n), n == 0 ? 0 : 1);
        return x;
    }

    // Promise 16: "UNKNOWN"
    private static void messageKnowsThoseThatCame() {
        PlugRounds x = new PlugRounds();
        dueEach("16 message(.., 0) of none", UNKNOWN, i -> x.message(i, 0), -1, 0, 1, 119, 120, MIN, MAX);
        PlugRounds y = told(3);
        dueEach("16 message(.., 0) of three", UNKNOWN, i -> y.message(i, 0), -1, 3, 4, 119, 120, MIN, MAX);
        dueMessage(y, 0, 0, 0, 0, 0, 1);
        dueMessage(y, 2, 0, 0, 0, 2, 1);
    }

    // Promise 16: "what (0), PROCESSOR (1), UNIT's NAME (2; NONE), a (3), ROUND (4)", "OUTSIDE"
    private static void messageTakesFiveKinds() {
        PlugRounds x = told(2);
        for (int i = 0; i < 2; i++) {
            int message = i;
            dueEach("16 message(" + i + ", ..)", OUTSIDE, what -> x.message(message, what), -1, 5, 6, 10, MIN, MAX);
            dueMessage(x, i, 0, 0, 0, i, 1);
        }
    }

    // Promise 16: "UNKNOWN; OUTSIDE": of both the first
    private static void messageUnknownComesAheadOfOutside() {
        PlugRounds x = told(1);
        for (int what : new int[] {-1, 5, MIN, MAX}) {
            dueEach("16 message(.., " + what + ")", UNKNOWN, i -> x.message(i, what), -1, 1, 120, MIN, MAX);
        }
    }

    // Terms 2: "MESSAGES, 120 at most": the 120th is kept
    private static void messageOfTheHundredAndTwentieth() {
        PlugRounds x = told(119);
        due("16 119", x.about(2), 119);
        due("16 no MESSAGE 119 yet", x.message(119, 0), UNKNOWN);
        PlugRounds y = told(120);
        due("16 120", y.about(2), 120);
        dueMessage(y, 119, 0, 0, 9, 11, 1);
        due("16 no MESSAGE 120", y.message(120, 0), UNKNOWN);
    }

    // Terms 2: "(then no more)": the 121st is not kept, all else of its RULE is as ever
    private static void messagesThenNoMore() {
        PlugRounds x = told(121);
        due("16 120 of 121", x.about(2), 120);
        dueMessage(x, 0, 0, 0, 0, 0, 1);
        dueMessage(x, 119, 0, 0, 9, 11, 1);
        due("16 no MESSAGE 120", x.message(120, 0), UNKNOWN);
        due("16 all STEPS", x.about(4), 121);
        x.anew();
        due("16 a RUN more", x.run(200), 1);
        due("16 no more", x.about(2), 120);
        dueMessage(x, 119, 0, 0, 9, 11, 1);
        x.clear();
        due("16 none behind clear", x.about(2), 0);
    }

    // Terms 2: "MESSAGES, 120 at most (then no more)": whatever ACT they are of, which is done all the same
    private static void messagesOfAllKindsThenNoMore() {
        PlugRounds x = told(120);
        plug(x, 7, CHANGE, 0, 0, 7, MAKE, 0, 0, END, MAKE, 60, 0, 7, WRITE, 0, 1, 7, THROW, 0, 0);
        x.pass(true);
        x.unit(50, 128);
        due("16 a RUN of other ACTS", x.run(9), 1);
        due("16 no more", x.about(2), 120);
        due("16 WRITE is done", x.about(10), 1);
        due("16 THROW is done", x.told(1, 2), 1);
        x.pass(false);
        x.anew();
        due("16 THROW still is REFUSED", x.run(1000), REFUSED);
        due("16 no more then", x.about(2), 120);
    }

    // Terms 2: "are kept as they come, over all RUNS"
    private static void messagesAreKeptOverRuns() {
        PlugRounds x = with(0, TELL, 1, 0, 1, TELL, 2, 1, 0, THROW, 3, 0);
        x.unit(0, 2);
        due("16 made", x.run(9), 1);
        x.marks(0, 1);
        due("16 SPENT", x.run(1), SPENT);
        due("16 REFUSED", x.run(9), REFUSED);
        due("16 OUTSIDE", x.run(-1), OUTSIDE);
        x.marks(0, 2);
        due("16 made again", x.run(9), 1);
        dueMessages(x, row(1, 0, 0, 2, 1), row(0, 0, 0, 1, 1), row(0, 0, 0, 1, 1), row(5, 0, 0, 3, 1), row(1, 0, 0, 2, 1));
    }

    // Terms 2: "UNIT (NONE at the END), a, ROUND (at the END one more than the last)"
    private static void messageAtTheEnd() {
        PlugRounds x = with(0, TELL, 1, 0, END, TELL, 2, 0, 1, MAKE, 9, 1);
        x.unit(0, 1);
        due("16 one ROUND", x.run(9), 1);
        dueMessages(x, row(0, 0, 0, 1, 1), row(0, 0, NONE, 2, 2));
        x.marks(0, 2);
        due("16 two ROUNDS", x.run(9), 2);
        dueMessages(x, row(0, 0, 0, 1, 1), row(0, 0, NONE, 2, 2), row(0, 0, 9, 1, 2), row(0, 0, NONE, 2, 3));
    }

    // Promise 16: "UNIT's NAME (2; NONE)": NAMES 0 and 63, and not the UNIT's number
    private static void messageKeepsItsName() {
        PlugRounds x = with(0, TELL, 1, 0);
        x.unit(63, 1);
        x.unit(0, 1);
        x.run(9);
        dueMessages(x, row(0, 0, 63, 1, 1), row(0, 0, 0, 1, 1));
    }

    // Promise 16: "UNIT's NAME (2; NONE)"; Terms 2: "MESSAGES stay": also of a UNIT that went with its RUN, whoever has its
    // number then
    private static void messageOfAUnitThatIsGone() {
        PlugRounds x = with(0, MAKE, 9, 2, 1, TELL, 1, 0, 1, THROW, 2, 0);
        x.unit(0, 1);
        due("16 REFUSED", x.run(9), REFUSED);
        dueMessages(x, row(0, 0, 9, 1, 2), row(5, 0, 9, 2, 2));
        due("16 another has its number", x.unit(20, 0), 1);
        dueMessages(x, row(0, 0, 9, 1, 2), row(5, 0, 9, 2, 2));
    }

    // Promise 16: "PROCESSOR (1)": from 0 to 5
    private static void messageOfFirstAndLastProcessor() {
        PlugRounds x = new PlugRounds();
        for (int p = 0; p < 6; p++) {
            plug(x, 0, TELL, 20 + p, 0);
        }
        x.unit(0, 1);
        x.run(6);
        for (int p = 0; p < 6; p++) {
            dueMessage(x, p, 0, p, 0, 20 + p, 1);
        }
    }

    // Promise 17: "UNKNOWN"
    private static void toldKnowsProcessors() {
        PlugRounds x = new PlugRounds();
        dueEach("17 told(.., 0) of none", UNKNOWN, p -> x.told(p, 0), -1, 0, 1, 5, 6, MIN, MAX);
        plug(x, 0, TELL, 0, 0);
        due("17 told(0, 0)", x.told(0, 0), 5);
        dueEach("17 told(.., 0) of one", UNKNOWN, p -> x.told(p, 0), -1, 1, 5, 6, MIN, MAX);
        for (int p = 1; p < 6; p++) {
            x.define(5);
        }
        due("17 told(5, 0)", x.told(5, 0), 5);
        dueEach("17 told(.., 0) of six", UNKNOWN, p -> x.told(p, 0), -1, 6, 7, MIN, MAX);
    }

    // Promise 17: "its FILE (what = 0), how many RULES it has (1), whether the latest RUN STOPPED it (2), how many
    // STEPS it took in that (3)", "OUTSIDE"
    private static void toldTakesFourKinds() {
        PlugRounds x = with(0, TELL, 0, 0);
        dueEach("17 told(0, ..)", OUTSIDE, what -> x.told(0, what), -1, 4, 5, 10, MIN, MAX);
        int[] want = {5, 1, 0, 0};
        for (int what = 0; what <= 3; what++) {
            due("17 told(0, " + what + ")", x.told(0, what), want[what]);
        }
    }

    // Promise 17: "UNKNOWN; OUTSIDE": of both the first
    private static void toldUnknownComesAheadOfOutside() {
        PlugRounds x = with(0, TELL, 0, 0);
        for (int what : new int[] {-1, 4, MIN, MAX}) {
            dueEach("17 told(.., " + what + ")", UNKNOWN, p -> x.told(p, what), -1, 1, 6, MIN, MAX);
        }
    }

    // Promise 17: "its FILE (what = 0), how many RULES it has (1)": FILES 0 to 5, 1 to 12 RULES, as they were then
    private static void toldOfFileAndRules() {
        PlugRounds x = new PlugRounds();
        int[] rules = {12, 1, 11, 2, 7, 5};
        for (int p = 0; p < 6; p++) {
            lay(x, 5 - p, rules(times(rules[p], 0, TELL, 0, 0)));
            due("17 define", x.define(5 - p), p);
        }
        for (int f = 0; f <= 5; f++) {
            x.lay(f);
        }
        for (int p = 0; p < 6; p++) {
            due("17 FILE", x.told(p, 0), 5 - p);
            due("17 RULES", x.told(p, 1), rules[p]);
        }
    }

    private static void dueTold(PlugRounds x, int p, int stopped, int steps) {
        due("17 told(" + p + ", 2)", x.told(p, 2), stopped);
        due("17 told(" + p + ", 3)", x.told(p, 3), steps);
    }

    // Promise 17: "whether the latest RUN STOPPED it (2), how many STEPS it took in that (3)": made, REFUSED, SPENT, of
    // no ROUNDS
    private static void toldOfTheLatestRun() {
        PlugRounds x = with(0, TELL, 0, 0, 1, THROW, 0, 0);
        plug(x, 0, WORK, 2, 3);
        dueTold(x, 0, 0, 0);
        x.pass(true);
        x.unit(0, 3);
        due("17 made", x.run(100), 1);
        dueTold(x, 0, 1, 2);
        dueTold(x, 1, 0, 7);
        x.pass(false);
        x.marks(0, 3);
        dueTold(x, 0, 1, 2);
        due("17 REFUSED", x.run(100), REFUSED);
        dueTold(x, 0, 1, 2);
        dueTold(x, 1, 0, 0);
        due("17 SPENT", x.run(1), SPENT);
        dueTold(x, 0, 0, 1);
        x.marks(0, 1);
        due("17 SPENT by the other", x.run(7), SPENT);
        dueTold(x, 1, 0, 1);
        due("17 made again", x.run(8), 1);
        dueTold(x, 0, 0, 1);
        due("17 of no ROUNDS", x.run(100), 0);
        dueTold(x, 0, 0, 0);
        dueTold(x, 1, 0, 0);
    }

    // Promise 17: "whether the latest RUN STOPPED it (2), how many STEPS it took in that (3)": no, and none, if it came
    // behind it
    private static void toldOfOneThatWasNotInIt() {
        PlugRounds x = with(0, THROW, 0, 0);
        x.unit(0, 1);
        due("17 REFUSED", x.run(100), REFUSED);
        x.define(5);
        dueTold(x, 0, 1, 1);
        dueTold(x, 1, 0, 0);
        x.clear();
        x.define(5);
        dueTold(x, 0, 0, 0);
    }

    // Promise 18: "ArrayIndexOutOfBoundsException: not 0 .. 5"
    private static void cellOfNoNumber() {
        PlugRounds x = new PlugRounds();
        dueEach("18 cell of none", AIOOBE, p -> cell(x, p), -1, 6, 7, MIN, MAX);
        for (int p = 0; p < 6; p++) {
            plug(x, 0, TELL, 0, 0);
        }
        dueEach("18 cell of six", AIOOBE, p -> cell(x, p), -1, 6, 7, MIN, MAX);
    }

    // Promise 18: "NullPointerException: there is none"
    private static void cellOfNoProcessor() {
        PlugRounds x = new PlugRounds();
        for (int there = 0; there < 6; there++) {
            for (int p = 0; p <= 5; p++) {
                due("18 cell(" + p + ") of " + there, cell(x, p), p < there ? 0 : NPE);
            }
            plug(x, 0, TELL, 0, 0);
        }
        x.clear();
        dueEach("18 cell behind clear", NPE, p -> cell(x, p), 0, 1, 2, 3, 4, 5);
    }

    // Promise 18: "The CELL of a PROCESSOR": from 0 to 5, each int
    private static void cellOfSix() {
        PlugRounds x = new PlugRounds();
        int[] want = {0, MAX, MIN, -1, 127, -128};
        x.option(1, MAX);
        x.option(2, MIN);
        x.option(3, -1);
        plug(x, 0, ASK, 0, 0);
        plug(x, 0, ASK, 1, 0);
        plug(x, 0, ASK, 2, 0);
        plug(x, 0, ASK, 3, 0);
        plug(x, 0, ADD, 127, 0);
        plug(x, 0, ADD, 128, 0);
        x.unit(0, 1);
        x.run(6);
        for (int p = 0; p < 6; p++) {
            due("18 cell(" + p + ")", cell(x, p), want[p]);
        }
    }

    // Promise 19: "ArrayIndexOutOfBoundsException: no such RESOURCE, byte" (here the RESOURCE)
    private static void resourceKnowsFour() {
        PlugRounds x = with(0, WRITE, 0, 10, 0, WRITE, 1, 11, 0, WRITE, 2, 12, 0, WRITE, 3, 13);
        x.unit(0, 1);
        x.run(4);
        for (int r = 0; r <= 3; r++) {
            due("19 resource(" + r + ", 0)", resource(x, r, 0), 10 + r);
        }
        for (int i : new int[] {0, -1, 1, MAX}) {
            dueEach("19 resource(.., " + i + ")", AIOOBE, r -> resource(x, r, i), -1, 4, 5, 10, 13, MIN, MAX);
        }
    }

    // Promise 19: "ArrayIndexOutOfBoundsException: no such RESOURCE, byte" (here the byte)
    private static void resourceOfNoByte() {
        PlugRounds x = with(0, WRITE, 2, 7, 0, WRITE, 2, 8);
        dueEach("19 resource(2, ..) of none", AIOOBE, i -> resource(x, 2, i), -1, 0, 1, 99, 100, MIN, MAX);
        x.unit(0, 1);
        x.run(2);
        due("19 the first", resource(x, 2, 0), 7);
        due("19 the last", resource(x, 2, 1), 8);
        dueEach("19 resource(2, ..) of two", AIOOBE, i -> resource(x, 2, i), -1, 2, 3, 99, 100, MIN, MAX);
        x.clear();
        dueEach("19 resource(2, ..) behind clear", AIOOBE, i -> resource(x, 2, i), -1, 0, 1);
    }

    // Terms 2: "if that has 100 bytes"; Promise 19: "Byte i (0 .. 255) of RESOURCE r": byte 99 is the last that there
    // can be
    private static void resourceOfTheHundredth() {
        PlugRounds x = with(times(10, 0, WRITE, 3, 255));
        units(x, 0, 10, 1);
        x.run(1000);
        due("19 byte 0", resource(x, 3, 0), 255);
        due("19 byte 99", resource(x, 3, 99), 255);
        dueEach("19 resource(3, ..) of 100", AIOOBE, i -> resource(x, 3, i), -1, 100, 101, MIN, MAX);
    }

    // Promise 19: "Byte i (0 .. 255)": without sign
    private static void resourceHasNoSign() {
        PlugRounds x = with(0, WRITE, 0, 127, 0, WRITE, 0, 128, 0, WRITE, 0, 255, 0, WRITE, 0, 0);
        x.unit(0, 1);
        x.run(4);
        dueBytes("19 WRITE", x, 0, 127, 128, 255, 0);
    }

    // Promise 20: "OUTSIDE": what is not 0 .. 6 and not 10 .. 13
    private static void aboutTakesItsKinds() {
        PlugRounds x = new PlugRounds();
        dueEach("20 about", OUTSIDE, x::about, -1, -2, 7, 8, 9, 14, 15, 100, MIN, MIN + 9, MIN + 10, MIN + 13, MAX - 3, MAX);
        dueEach("20 about", 0, x::about, 0, 1, 2, 3, 4, 5, 6, 10, 11, 12, 13);
    }

    private static void dueAbout(PlugRounds x, int... want) {
        for (int what = 0; what < want.length; what++) {
            due("20 about(" + what + ")", x.about(what), want[what]);
        }
    }

    // Promise 20: "How many": none of anything, and of a RUN over nothing
    private static void aboutOfNothing() {
        PlugRounds x = new PlugRounds();
        x.run(100);
        dueAbout(x, 0, 0, 0, 0, 0, 0, 0);
    }

    // Promise 20: "0 UNITS, 1 PROCESSORS, 2 MESSAGES, 3 UNITS that are NEW": 40, 6, 120 and 40
    private static void aboutOfAllThatThereCanBe() {
        PlugRounds x = told(120);
        for (int p = 1; p < 6; p++) {
            plug(x, 7, WRITE, 0, 0);
        }
        units(x, 10, 39, 0);
        due("20 NEW ones", x.about(3), 30);
        x.anew();
        dueAbout(x, 40, 6, 120, 40, 120, 1, 0, OUTSIDE, OUTSIDE, OUTSIDE, 0, 0, 0, 0);
        x.unit(50, 0);
        x.define(5);
        dueAbout(x, 40, 6, 120, 40);
    }

    private static PlugRounds threeRounds() {
        return with(0, MAKE, 10, 2, 1, MAKE, 11, 0, END, MAKE, 12, 0, 2, THROW, 0, 0, 3, MAKE, 10, 4);
    }

    // Promise 20: "4 STEPS of the latest RUN, 5 ROUNDS of it that had UNITS (also if it was SPENT or REFUSED), 6 UNITS
    // that the latest RUN MADE (0, if it was such)" (here SPENT)
    private static void aboutOfASpentRun() {
        PlugRounds x = threeRounds();
        x.unit(0, 1);
        int[] rounds = {1, 2, 3};
        for (int n = 0; n < 3; n++) {
            due("20 SPENT", x.run(n), SPENT);
            dueAbout(x, 1, 1, 0, 1, n, rounds[n], 0);
            x.clear();
            x.define(5);
            x.unit(0, 1);
        }
        due("20 made", x.run(3), 3);
        dueAbout(x, 4, 1, 1, 1, 3, 3, 3);
        x.marks(0, 1);
        due("20 SPENT behind it", x.run(0), SPENT);
        dueAbout(x, 4, 1, 1, 2, 0, 1, 0);
    }

    // Promise 20: "5 ROUNDS of it that had UNITS (also if it was SPENT or REFUSED), 6 UNITS that the latest RUN MADE
    // (0, if it was such)" (here REFUSED)
    private static void aboutOfARefusedRun() {
        PlugRounds x = threeRounds();
        x.unit(0, 4);
        due("20 REFUSED in ROUND 1", x.run(9), REFUSED);
        dueAbout(x, 1, 1, 1, 1, 1, 1, 0);
        x.marks(0, 8);
        due("20 REFUSED in ROUND 2", x.run(9), REFUSED);
        dueAbout(x, 1, 1, 2, 1, 2, 2, 0);
        plug(x, END, THROW, 0, 0);
        x.marks(0, 0);
        due("20 REFUSED at the END", x.run(9), REFUSED);
        dueAbout(x, 1, 2, 4, 1, 2, 1, 0);
    }

    // Promise 20: "4 STEPS of the latest RUN, 5 ROUNDS of it that had UNITS": none, if no UNIT is NEW
    private static void aboutOfARunOfNoRounds() {
        PlugRounds x = threeRounds();
        x.unit(0, 1);
        due("20 made", x.run(9), 3);
        due("20 over the one of the END", x.run(9), 1);
        dueAbout(x, 4, 1, 2, 0, 1, 1, 0);
        due("20 over none", x.run(9), 0);
        dueAbout(x, 4, 1, 2, 0, 0, 0, 0);
    }

    // Promise 20: "6 UNITS that the latest RUN MADE": in ROUNDS and at the END, and not those of RUNS ahead
    private static void aboutMadeInRoundsAndAtTheEnd() {
        PlugRounds x = with(0, MAKE, 1, 0, 0, MAKE, 2, 0, 1, MAKE, 3, 0, END, MAKE, 4, 0);
        x.unit(0, 1);
        x.run(9);
        due("20 two and one", x.about(6), 3);
        x.unit(5, 2);
        due("20 unit() is no RUN", x.about(6), 3);
        x.run(9);
        due("20 one alone", x.about(6), 1);
    }

    // Promise 20: "10 .. 13 bytes of RESOURCE 0 .. 3"
    private static void aboutOfEachResource() {
        PlugRounds x = with(0, WRITE, 3, 0, 0, WRITE, 2, 0, 0, WRITE, 2, 0, 0, WRITE, 1, 0, 0, WRITE, 1, 0, 0, WRITE, 1, 0,
            1, WRITE, 0, 0);
        x.unit(0, 1);
        x.run(9);
        int[] want = {0, 3, 2, 1};
        for (int r = 0; r <= 3; r++) {
            due("20 about(" + (10 + r) + ")", x.about(10 + r), want[r]);
        }
        units(x, 1, 39, 2);
        x.run(1000);
        due("20 about(10) of 39", x.about(10), 39);
        for (int k = 0; k < 2; k++) {
            x.anew();
            x.run(1000);
        }
        due("20 about(10) of 100", x.about(10), 100);
        due("20 about(11)", x.about(11), 9);
    }

    // Promise 21: "how many UNITS there were": none
    private static void clearOfNothing() {
        PlugRounds x = new PlugRounds();
        due("21 clear of nothing", x.clear(), 0);
        due("21 and again", x.clear(), 0);
        dueAbout(x, 0, 0, 0, 0, 0, 0, 0);
    }

    // Promise 21: "There are no UNITS, PROCESSORS, MESSAGES, RESOURCES are empty", "how many UNITS there were": of 40
    private static void clearOfAllThatThereCanBe() {
        PlugRounds x = told(120);
        plug(x, 7, WRITE, 0, 1, 7, WRITE, 1, 1, 7, WRITE, 2, 1, 7, WRITE, 3, 1);
        units(x, 10, 39, 128);
        due("21 bytes in each RESOURCE", x.run(1000), 1);
        for (int p = 2; p < 6; p++) {
            x.define(5);
        }
        dueAbout(x, 40, 6, 120, 0, 120, 1, 0, OUTSIDE, OUTSIDE, OUTSIDE, 30, 30, 30, 30);
        due("21 clear of 40", x.clear(), 40);
        dueAbout(x, 0, 0, 0, 0, 120, 1, 0, OUTSIDE, OUTSIDE, OUTSIDE, 0, 0, 0, 0);
        due("21 no UNIT", x.mirror(0, 0), UNKNOWN);
        due("21 no PROCESSOR", x.told(0, 0), UNKNOWN);
        due("21 no CELL", cell(x, 0), NPE);
        due("21 no MESSAGE", x.message(0, 0), UNKNOWN);
        for (int r = 0; r <= 3; r++) {
            dueBytes("21 clear", x, r);
        }
        due("21 none is NEW", x.anew(), 0);
        due("21 clear again", x.clear(), 0);
    }

    // Promise 21: "all else stays": FILES, their STARTS, the TAPE, OPTIONS, PASS
    private static void clearLeavesAllElse() {
        PlugRounds x = with(0, TELL, 0, 0);
        for (int f = 0; f <= 2; f++) {
            lay(x, f, rules(0, TELL, f, 0));
        }
        x.fails(0, true);
        x.fails(1, true);
        due("21 FAILED ahead of it", x.define(1), FAILED);
        x.feed(3, 0x010203);
        for (int i = 0; i <= 3; i++) {
            x.option(i, 60 + i);
        }
        x.pass(true);
        x.unit(0, 1);
        due("21 clear", x.clear(), 1);
        due("21 PASS", x.pass(false), 1);
        for (int i = 0; i <= 3; i++) {
            due("21 OPTION " + i, x.option(i, 0), 60 + i);
        }
        dueOctets("21 FILE 2", x, 2, rules(0, TELL, 2, 0));
        due("21 not FAILED yet", x.define(0), FAILED);
        due("21 GONE", x.define(1), GONE);
        due("21 SOUND", x.define(2), 0);
        due("21 the TAPE", x.lay(4), 3);
        dueOctets("21 the TAPE", x, 4, 1, 2, 3);
    }

    // Promise 21: "all else stays": what the latest RUN was, too
    private static void clearLeavesTheLatestRun() {
        PlugRounds x = with(0, MAKE, 9, 2, 1, TELL, 0, 0, END, MAKE, 10, 0);
        x.unit(0, 1);
        due("21 run", x.run(9), 2);
        due("21 clear", x.clear(), 3);
        dueAbout(x, 0, 0, 0, 0, 3, 2, 2);
    }

    // Promise 21: "There are no UNITS, PROCESSORS, MESSAGES": numbers begin with 0 again, and all have their room
    private static void clearBeginsAnew() {
        PlugRounds x = told(120);
        x.clear();
        due("21 define", plug(x, 0, TELL, 77, 2), 0);
        for (int k = 0; k < 40; k++) {
            due("21 unit", x.unit(k, 1), k);
        }
        due("21 run", x.run(40), 1);
        due("21 MESSAGES", x.about(2), 40);
        dueMessage(x, 0, 2, 0, 0, 77, 1);
        dueMessage(x, 39, 2, 0, 39, 77, 1);
    }

    // What it is: "An object is used for at most 512 calls after it has been made": the 512th is answered as the first
    private static void theLastCallIsAnswered() {
        PlugRounds x = new PlugRounds();
        for (int k = 1; k < 512; k++) {
            due("call " + k, x.pass(k % 2 == 1), (k + 1) % 2);
        }
        due("call 512", x.pass(false), 1);
        PlugRounds y = new PlugRounds();
        for (int k = 1; k < 512; k++) {
            due("call " + k, y.clear(), 0);
        }
        due("call 512 that is refused", y.lay(6), UNKNOWN);
    }
}
