/** RUNS, their ROUNDS, CLAIMS, END and STEPS at their edges: Terms 2 and Promises 12, 13 and 14. */
public final class RunEdgesTest extends Check {
    public static void main(String[] args) {
        options();
        passing();
        lengths();
        rounds();
        orders();
        claims();
        ends();
        steps();
        takenBack();
        newBehind();
        end("RunEdgesTest");
    }

    private static void options() {
        optionKnowsFour();
        optionTakesEachInt();
        optionIsOfOneNumber();
    }

    private static void passing() {
        passAnswersWhatWas();
        passLetsARunGoOn();
    }

    private static void lengths() {
        runTakesUpToAHundredThousand();
        runOutsideIsNoRun();
        runOfNoStepsAndNothingToDo();
        runOfNoStepsIsSpent();
        runOfAllStepsThatThereCanBe();
    }

    private static void rounds() {
        withoutUnitsThereIsNoEnd();
        withoutNewUnitsThereIsNoEnd();
        withoutProcessorsThereAreRounds();
        firstRoundHasTheNewUnits();
        nextRoundHasThoseMade();
        lastRoundMadeNone();
        asManyRoundsAsUnits();
        unitsWithoutMarksMakeARound();
    }

    private static void orders() {
        processorsMeetUnitsByNumbers();
        rulesComeInOrder();
        allSixProcessorsMeetAllUnits();
        stoppedOnesMeetNone();
        stoppedForThisRunAlone();
    }

    private static void claims() {
        claimKeepsOutThoseBehind();
        claimBindsNoneAhead();
        claimBindsNotItself();
        claimIsOfOneMark();
        claimIsOfOneRound();
        claimIsOfOneRun();
        claimOfFirstAndLastMark();
        claimOfALaterUnit();
    }

    private static void ends() {
        endDoesMarkFifteenAlone();
        noUnitHasMarkFifteen();
        endComesOnce();
        endPassesOverTheStopped();
    }

    private static void steps() {
        eachRuleTakesAStep();
        oneStepTooFewIsSpent();
        stepsAreOfAllProcessors();
        stepsAtTheEnd();
        whatIsNotDoneTakesNone();
        throwOnTheLastStep();
        throwWithoutAStep();
    }

    private static void takenBack() {
        spentInEachPlace();
        refusedInEachPlace();
        fullUnitsAreTakenBack();
        fullResourcesAreTakenBack();
        wrappedCellsAreTakenBack();
        messagesStay();
        takenBackRunCanBeMadeAgain();
        refusedStopsAllOthers();
    }

    private static void newBehind() {
        noneIsNewBehind();
        thoseMadeAtTheEndAreNew();
        newStaysBehindASpentRun();
    }

    // Promise 12: "OPTION i (0 .. 3)", "OUTSIDE: i"
    private static void optionKnowsFour() {
        PlugRounds x = new PlugRounds();
        dueEach("12 option(.., 5)", OUTSIDE, i -> x.option(i, 5), -1, 4, 5, 256, MIN, MAX);
        due("12 option(0)", x.option(0, 1), 0);
        due("12 option(3)", x.option(3, 1), 0);
    }

    // Promise 12: "OPTION i (0 .. 3): what it was": each int may be one
    private static void optionTakesEachInt() {
        PlugRounds x = new PlugRounds();
        int was = 0;
        for (int v : new int[] {MAX, MIN, -1, 0, 255, 256, UNKNOWN, OUTSIDE}) {
            due("12 option(2, " + v + ")", x.option(2, v), was);
            was = v;
        }
        due("12 the last one", x.option(2, 0), was);
    }

    // Promise 12: "OPTION i (0 .. 3)": each for itself
    private static void optionIsOfOneNumber() {
        PlugRounds x = new PlugRounds();
        for (int i = 0; i <= 3; i++) {
            due("12 option(" + i + ")", x.option(i, 10 + i), 0);
        }
        for (int i = 0; i <= 3; i++) {
            due("12 option(" + i + ") again", x.option(i, 0), 10 + i);
        }
    }

    // Promise 13: "1 if it did"
    private static void passAnswersWhatWas() {
        PlugRounds x = new PlugRounds();
        due("13 no to no", x.pass(false), 0);
        due("13 no to yes", x.pass(true), 0);
        due("13 yes to yes", x.pass(true), 1);
        due("13 yes to no", x.pass(false), 1);
        due("13 it is no", x.pass(false), 0);
    }

    // Promise 13: "Whether a RUN goes on behind THROW"
    private static void passLetsARunGoOn() {
        PlugRounds x = with(0, THROW, 0, 0);
        x.unit(0, 1);
        due("13 it does not", x.run(9), REFUSED);
        x.pass(true);
        due("13 it does", x.run(9), 1);
        due("13 a RUN leaves it", x.pass(false), 1);
        x.anew();
        due("13 it does no longer", x.run(9), REFUSED);
    }

    // Promise 14: "up to n STEPS (0 .. 100000)", "OUTSIDE"
    private static void runTakesUpToAHundredThousand() {
        PlugRounds x = new PlugRounds();
        dueEach("14 run", OUTSIDE, x::run, -1, -2, 100001, 100002, 1000000, MIN, MAX);
        dueEach("14 run", 0, x::run, 0, 1, 99999, 100000);
    }

    // Promise 14: "OUTSIDE": then there was no RUN, and the latest one is still that ahead of it
    private static void runOutsideIsNoRun() {
        PlugRounds x = with(0, WRITE, 0, 1, 0, THROW, 0, 0);
        x.pass(true);
        x.unit(0, 1);
        due("14 run", x.run(9), 1);
        x.anew();
        dueEach("14 run", OUTSIDE, x::run, -1, 100001, MIN, MAX);
        due("14 STEPS", x.about(4), 2);
        due("14 ROUNDS", x.about(5), 1);
        due("14 STOPPED", x.told(0, 2), 1);
        due("14 STEPS of the PROCESSOR", x.told(0, 3), 2);
        due("14 NEW ones", x.about(3), 1);
        due("14 bytes", x.about(10), 1);
        due("14 MESSAGES", x.about(2), 1);
    }

    // Promise 14: "up to n STEPS (0 .. 100000)": none are needed if no RULE is done
    private static void runOfNoStepsAndNothingToDo() {
        PlugRounds x = with(0, WRITE, 0, 1);
        due("14 no UNIT", x.run(0), 0);
        x.unit(0, 254);
        due("14 no RULE for its MARKS", x.run(0), 1);
        due("14 no UNIT is NEW", x.run(0), 0);
    }

    // Terms 2: "To do a RULE takes a STEP; if none is left, the RUN is SPENT": with none at all
    private static void runOfNoStepsIsSpent() {
        PlugRounds x = with(0, WRITE, 0, 1);
        x.unit(0, 1);
        due("14 run(0)", x.run(0), SPENT);
        due("14 its STEPS", x.about(4), 0);
        due("14 its ROUNDS", x.about(5), 1);
        due("14 its bytes", x.about(10), 0);
        PlugRounds y = with(END, WRITE, 0, 1);
        y.unit(0, 1);
        due("14 run(0) with an END", y.run(0), SPENT);
        due("14 its ROUNDS", y.about(5), 1);
    }

    // Promise 14: "up to n STEPS (0 .. 100000)": 100000 are done, 100001 are not
    private static void runOfAllStepsThatThereCanBe() {
        // 1 + 50000, 1 + 49980, 1 + 16 STEPS and 1 of TELL; one more if MARK 1 is there, too
        PlugRounds x = with(0, WORK, 200, 250, 0, WORK, 196, 255, 0, WORK, 16, 1, 0, TELL, 7, 0, 1, TELL, 8, 0);
        x.unit(0, 1);
        due("14 run(99999) of 100000", x.run(99999), SPENT);
        due("14 STEPS of it", x.about(4), 99999);
        dueMessages(x);
        due("14 run(100000) of 100000", x.run(100000), 1);
        due("14 STEPS of all", x.about(4), 100000);
        due("14 STEPS of the PROCESSOR", x.told(0, 3), 100000);
        dueMessages(x, row(0, 0, 0, 7, 1));
        x.marks(0, 3);
        due("14 run(100000) of 100001", x.run(100000), SPENT);
        due("14 STEPS of that", x.about(4), 100000);
        dueMessages(x, row(0, 0, 0, 7, 1), row(0, 0, 0, 7, 1));
    }

    // Terms 2: "(if ROUND 1 had none, there is no END)": without UNITS
    private static void withoutUnitsThereIsNoEnd() {
        PlugRounds x = with(END, WRITE, 0, 1, END, TELL, 0, 0);
        due("14 run", x.run(9), 0);
        dueBytes("14 no END", x, 0);
        dueMessages(x);
        due("14 no STEPS", x.about(4), 0);
        due("14 no ROUNDS", x.about(5), 0);
    }

    // Terms 2: "ROUND 1 has the UNITS that are NEW"; "(if ROUND 1 had none, there is no END)": with old UNITS alone
    private static void withoutNewUnitsThereIsNoEnd() {
        PlugRounds x = with(0, WRITE, 0, 1, END, WRITE, 0, 2);
        x.unit(0, 1);
        due("14 run", x.run(9), 1);
        due("14 run of none", x.run(9), 0);
        dueBytes("14 once alone", x, 0, 1, 2);
        due("14 no STEPS", x.about(4), 0);
        due("14 no ROUNDS", x.about(5), 0);
        due("14 no STEPS of the PROCESSOR", x.told(0, 3), 0);
    }

    // Promise 14: "how many ROUNDS (that had UNITS)": also if no PROCESSOR is there
    private static void withoutProcessorsThereAreRounds() {
        PlugRounds x = new PlugRounds();
        x.unit(0, 255);
        due("14 run", x.run(0), 1);
        due("14 none is NEW then", x.about(3), 0);
        due("14 run again", x.run(0), 0);
    }

    // Terms 2: "ROUND 1 has the UNITS that are NEW": and no other one
    private static void firstRoundHasTheNewUnits() {
        PlugRounds x = with(0, TELL, 7, 0);
        units(x, 0, 4, 1);
        x.run(9);
        x.marks(1, 1);
        x.marks(4, 1);
        x.unit(5, 1);
        due("14 run", x.run(3), 1);
        due("14 MESSAGES", x.about(2), 8);
        dueMessage(x, 5, 0, 0, 1, 7, 1);
        dueMessage(x, 6, 0, 0, 4, 7, 1);
        dueMessage(x, 7, 0, 0, 5, 7, 1);
    }

    // Terms 2: "each other one the UNITS that were MADE in the one before": not in the same ROUND, and once
    private static void nextRoundHasThoseMade() {
        PlugRounds x = with(0, MAKE, 10, 2, 0, MAKE, 11, 2, 1, TELL, 1, 0);
        plug(x, 1, TELL, 2, 0, 1, MAKE, 12, 4, 2, TELL, 3, 0);
        x.unit(0, 1);
        x.unit(1, 2);
        due("14 run", x.run(100), 2);
        dueMessages(x, row(0, 0, 1, 1, 1), row(0, 1, 1, 2, 1),
            row(0, 0, 10, 1, 2), row(0, 0, 11, 1, 2), row(0, 1, 10, 2, 2), row(3, 1, 10, 12, 2),
            row(0, 1, 11, 2, 2), row(3, 1, 11, 12, 2), row(0, 1, 12, 3, 2));
    }

    // Terms 2: "when there are none, it is at its END": behind a ROUND that MADE none
    private static void lastRoundMadeNone() {
        PlugRounds x = with(0, MAKE, 1, 2, 1, MAKE, 2, 0, END, TELL, 9, 0);
        x.unit(0, 1);
        due("14 run", x.run(3), 3);
        dueMessages(x, row(0, 0, NONE, 9, 4));
        x.marks(2, 1);
        due("14 run that MAKES none", x.run(2), 1);
        dueMessages(x, row(0, 0, NONE, 9, 4), row(3, 0, 2, 1, 1), row(0, 0, NONE, 9, 2));
    }

    // Promise 14: "how many ROUNDS": as many as UNITS, 40, if each ROUND but the last MAKES one
    private static void asManyRoundsAsUnits() {
        PlugRounds x = chain();
        x.unit(0, 129);
        due("14 run", x.run(100000), 40);
        due("14 ROUNDS", x.about(5), 40);
        due("14 MADE", x.about(6), 39);
        due("14 UNITS", x.about(0), 40);
        dueUnit(x, 39, 39, 128 | 1 << 39 % 7, 0, 5, 39);
        dueBytes("14 the END", x, 0, 0, 1, 2, 3, 4, 5);
        due("14 MESSAGE 4 in ROUND 40", x.message(x.about(2) - 1, 4), 40);
        due("14 what it is", x.message(x.about(2) - 1, 0), 4);
    }

    /**
     * Six PROCESSORS that MAKE UNIT k + 1 when they meet UNIT k. All UNITS have MARK 7, which counts them in the CELLS,
     * and one of the MARKS 0 .. 6 in turn, which MAKES the next; PROCESSOR p keeps out until 7 p of them have come.
     */
    private static PlugRounds chain() {
        PlugRounds x = new PlugRounds();
        for (int p = 0; p < 6; p++) {
            int[] parts = {7, ADD, 1, 0, 7, SKIP, 7 * p + 1, 1, 7, SKIP, 0, 255};
            for (int m = 0; m < 7; m++) {
                parts = join(parts, m, MAKE, 7 * p + m + 1, 128 | 1 << (m + 1) % 7);
            }
            plug(x, join(parts, END, WRITE, 0, p));
        }
        return x;
    }

    // Promise 14: "how many ROUNDS (that had UNITS)": UNITS without a MARK are UNITS
    private static void unitsWithoutMarksMakeARound() {
        PlugRounds x = with(0, MAKE, 1, 0, END, TELL, 5, 0);
        x.unit(0, 1);
        due("14 run", x.run(2), 2);
        dueMessages(x, row(0, 0, NONE, 5, 3));
        x.marks(0, 0);
        due("14 run of no MARKS", x.run(1), 1);
        due("14 it had an END", x.about(2), 2);
    }

    // Terms 2: "In a ROUND each PROCESSOR that is not STOPPED, in order, meets each of its UNITS, by numbers"
    private static void processorsMeetUnitsByNumbers() {
        PlugRounds x = with(0, TELL, 1, 0);
        plug(x, 0, TELL, 2, 0);
        x.unit(60, 1);
        x.unit(3, 1);
        x.unit(30, 1);
        x.run(0);
        x.marks(2, 1);
        x.marks(0, 1);
        x.marks(1, 1);
        x.run(6);
        dueMessages(x, row(0, 0, 60, 1, 1), row(0, 0, 3, 1, 1), row(0, 0, 30, 1, 1),
            row(0, 1, 60, 2, 1), row(0, 1, 3, 2, 1), row(0, 1, 30, 2, 1));
    }

    // Terms 2: "with its RULES, in order: one that has a MARK of the UNIT"
    private static void rulesComeInOrder() {
        PlugRounds x = with(7, TELL, 1, 0, 0, TELL, 2, 0, 3, TELL, 3, 0, 7, TELL, 4, 0);
        x.unit(0, 129);
        x.unit(1, 8);
        x.run(4);
        dueMessages(x, row(0, 0, 0, 1, 1), row(0, 0, 0, 2, 1), row(0, 0, 0, 4, 1), row(0, 0, 1, 3, 1));
    }

    // Terms 2: "each PROCESSOR", "each of its UNITS": six of them and 40 of them
    private static void allSixProcessorsMeetAllUnits() {
        PlugRounds x = new PlugRounds();
        for (int p = 0; p < 6; p++) {
            plug(x, 0, ADD, p + 1, 0);
        }
        units(x, 0, 39, 1);
        due("14 run", x.run(240), 1);
        for (int p = 0; p < 6; p++) {
            due("14 cell(" + p + ")", cell(x, p), 40 * (p + 1));
            due("14 STEPS of " + p, x.told(p, 3), 40);
        }
        due("14 STEPS of all", x.about(4), 240);
    }

    // Terms 2: "each PROCESSOR that is not STOPPED": no RULE, no UNIT, no ROUND, no END any more
    private static void stoppedOnesMeetNone() {
        PlugRounds x = with(0, MAKE, 9, 1, 0, THROW, 1, 0, 0, TELL, 2, 0, END, TELL, 3, 0);
        plug(x, 0, TELL, 4, 0);
        x.pass(true);
        x.unit(0, 1);
        x.unit(1, 1);
        due("14 run", x.run(100), 2);
        dueMessages(x, row(5, 0, 0, 1, 1), row(0, 1, 0, 4, 1), row(0, 1, 1, 4, 1), row(0, 1, 9, 4, 2));
        due("14 STOPPED", x.told(0, 2), 1);
        due("14 not STOPPED", x.told(1, 2), 0);
        due("14 its STEPS", x.told(0, 3), 2);
    }

    // Terms 2: "the PROCESSOR is STOPPED (for this RUN, at once)"
    private static void stoppedForThisRunAlone() {
        PlugRounds x = with(0, THROW, 1, 0, 1, TELL, 2, 0);
        x.pass(true);
        x.unit(0, 3);
        x.run(9);
        dueMessages(x, row(5, 0, 0, 1, 1));
        x.marks(0, 2);
        due("14 the next RUN", x.run(9), 1);
        dueMessages(x, row(5, 0, 0, 1, 1), row(0, 0, 0, 2, 1));
        due("14 not STOPPED by it", x.told(0, 2), 0);
    }

    // Terms 2: "a MARK of the UNIT that no other PROCESSOR CLAIMED in this ROUND ahead of it"
    private static void claimKeepsOutThoseBehind() {
        PlugRounds x = with(0, CLAIM, 0, 0);
        plug(x, 0, TELL, 1, 0);
        plug(x, 0, TELL, 2, 0, 0, CLAIM, 0, 0);
        x.unit(0, 1);
        x.unit(1, 1);
        due("14 run", x.run(2), 1);
        dueMessages(x);
        due("14 STEPS of those behind", x.told(1, 3) + x.told(2, 3), 0);
    }

    // Terms 2: "CLAIMED in this ROUND ahead of it": not of those that are ahead themselves
    private static void claimBindsNoneAhead() {
        PlugRounds x = with(0, TELL, 1, 0);
        plug(x, 0, CLAIM, 0, 0);
        x.unit(0, 1);
        x.unit(1, 1);
        x.run(9);
        dueMessages(x, row(0, 0, 0, 1, 1), row(0, 0, 1, 1, 1));
    }

    // Terms 2: "that no other PROCESSOR CLAIMED": its own CLAIM leaves it free
    private static void claimBindsNotItself() {
        PlugRounds x = with(0, CLAIM, 0, 0, 0, TELL, 1, 0, 0, CLAIM, 0, 0, 0, TELL, 2, 0);
        x.unit(0, 1);
        x.unit(1, 1);
        x.run(8);
        dueMessages(x, row(0, 0, 0, 1, 1), row(0, 0, 0, 2, 1), row(0, 0, 1, 1, 1), row(0, 0, 1, 2, 1));
    }

    // Terms 2: "0 CLAIM: the MARK is CLAIMED": the RULE's MARK alone, not all that the UNIT has
    private static void claimIsOfOneMark() {
        PlugRounds x = with(3, CLAIM, 0, 0);
        plug(x, 2, TELL, 2, 0, 3, TELL, 3, 0, 4, TELL, 4, 0);
        x.unit(0, 255);
        x.run(9);
        dueMessages(x, row(0, 1, 0, 2, 1), row(0, 1, 0, 4, 1));
    }

    // Terms 2: "the MARK is CLAIMED in this ROUND": the next one begins without
    private static void claimIsOfOneRound() {
        PlugRounds x = with(0, CLAIM, 0, 0, 0, MAKE, 9, 2);
        plug(x, 1, CLAIM, 0, 0, 1, MAKE, 10, 3);
        plug(x, 0, TELL, 1, 0, 1, TELL, 2, 0);
        x.unit(0, 1);
        x.unit(1, 128);
        due("14 run", x.run(100), 3);
        dueMessages(x, row(3, 0, 10, 9, 3), row(3, 1, 10, 10, 3));
        PlugRounds y = with(0, CLAIM, 0, 0, 0, MAKE, 9, 1);
        plug(y, 0, TELL, 1, 0);
        y.unit(0, 1);
        y.run(100);
        due("14 CLAIMED anew in ROUND 2", y.about(2), 1);
        due("14 a MESSAGE of MAKE alone", y.message(0, 0), 3);
        freeInTheNextRound();
    }

    private static void freeInTheNextRound() {
        // the CELL keeps PROCESSOR 0 from CLAIMING in ROUND 2
        PlugRounds x = with(0, SKIP, 1, 2, 0, CLAIM, 0, 0, 0, MAKE, 9, 1, 0, ADD, 1, 0);
        plug(x, 0, TELL, 1, 0);
        x.unit(0, 1);
        due("14 run", x.run(100), 2);
        dueMessages(x, row(0, 1, 9, 1, 2));
    }

    // Terms 2: "CLAIMED in this ROUND": nor does the next RUN keep it
    private static void claimIsOfOneRun() {
        PlugRounds x = with(0, SKIP, 1, 1, 0, CLAIM, 0, 0, 0, ADD, 1, 0);
        plug(x, 0, TELL, 1, 0);
        x.unit(0, 1);
        x.run(100);
        dueMessages(x);
        x.anew();
        x.run(100);
        dueMessages(x, row(0, 1, 0, 1, 1));
    }

    // Terms 2: "MARK is 0 .. 7" (Terms 1): each of them can be CLAIMED
    private static void claimOfFirstAndLastMark() {
        for (int mark = 0; mark <= 7; mark++) {
            PlugRounds x = with(mark, CLAIM, 0, 0);
            plug(x, mark, TELL, 1, 0, (mark + 1) % 8, TELL, 2, 0);
            x.unit(0, 255);
            due("14 run", x.run(2), 1);
            dueMessages(x, row(0, 1, 0, 2, 1));
        }
    }

    // Terms 2: "the MARK is CLAIMED in this ROUND": for all UNITS of the ROUND, whichever it was CLAIMED of
    private static void claimOfALaterUnit() {
        PlugRounds x = with(0, SKIP, 1, 1, 0, SKIP, 0, 1, 0, CLAIM, 0, 0, 0, ADD, 1, 0);
        plug(x, 0, TELL, 1, 0);
        x.unit(0, 1);
        x.unit(1, 1);
        x.run(100);
        dueMessages(x);
    }

    // Terms 2: "does its RULES with MARK 15, in order, without a UNIT": and no others
    private static void endDoesMarkFifteenAlone() {
        PlugRounds x = with(END, TELL, 1, 0, 0, TELL, 2, 0, END, TELL, 3, 1, 7, TELL, 4, 0, END, TELL, 5, 2);
        plug(x, 0, TELL, 6, 0, END, TELL, 7, 0);
        x.unit(0, 0);
        due("14 run", x.run(4), 1);
        dueMessages(x, row(0, 0, NONE, 1, 2), row(1, 0, NONE, 3, 2), row(2, 0, NONE, 5, 2), row(0, 1, NONE, 7, 2));
    }

    // Terms 1: "15 (END)": a UNIT with all MARKS does not have it
    private static void noUnitHasMarkFifteen() {
        PlugRounds x = with(END, WRITE, 0, 1);
        units(x, 0, 3, 255);
        due("14 run", x.run(1), 1);
        dueBytes("14 at the END alone", x, 0, 1);
    }

    // Terms 2: "when there are none, it is at its END": once a RUN, whatever came of it
    private static void endComesOnce() {
        PlugRounds x = with(0, WRITE, 0, 1, 1, WRITE, 0, 2, 0, MAKE, 5, 2, END, WRITE, 0, 3, END, MAKE, 6, 1);
        x.unit(0, 1);
        due("14 run", x.run(5), 2);
        dueBytes("14 the END once", x, 0, 1, 2, 3);
        due("14 the UNIT of the END is not met", x.mirror(2, 2), 1);
    }

    // Terms 2: "At the END each that is not STOPPED"
    private static void endPassesOverTheStopped() {
        PlugRounds x = with(0, THROW, 0, 0, END, WRITE, 0, 1);
        plug(x, END, WRITE, 0, 2, END, THROW, 0, 0, END, WRITE, 0, 3);
        plug(x, END, WRITE, 0, 4);
        x.pass(true);
        x.unit(0, 1);
        due("14 run", x.run(4), 1);
        dueBytes("14 those not STOPPED", x, 0, 2, 4);
        due("14 STOPPED at the END", x.told(1, 2), 1);
        due("14 not STOPPED", x.told(2, 2), 0);
    }

    // Terms 2: "To do a RULE takes a STEP": each ACT, and just one
    private static void eachRuleTakesAStep() {
        int[][] acts = {{CLAIM, 0, 0}, {MAKE, 0, 0}, {MAKE, 1, 0}, {TELL, 0, 0}, {ADD, 1, 0}, {WORK, 0, 0}, {CHANGE, 0, 0},
            {WRITE, 0, 0}, {SKIP, 1, 1}, {ASK, 0, 0}, {THROW, 0, 0}};
        for (int[] act : acts) {
            for (int mark : new int[] {0, END}) {
                PlugRounds x = with(mark, act[0], act[1], act[2]);
                x.pass(true);
                x.unit(0, 1);
                due("14 ACT " + act[0] + " without a STEP", x.run(0), SPENT);
                due("14 no STEP", x.about(4), 0);
                due("14 ACT " + act[0] + " with a STEP", x.run(1), mark == 0 && act[0] == MAKE && act[1] == 1 ? 2 : 1);
                due("14 one STEP", x.about(4), 1);
                due("14 one STEP of the PROCESSOR", x.told(0, 3), 1);
            }
        }
    }

    // Terms 2: "if none is left, the RUN is SPENT"; Promise 14: "-11 SPENT"
    private static void oneStepTooFewIsSpent() {
        PlugRounds x = with(0, TELL, 1, 0, 0, TELL, 2, 0, 0, TELL, 3, 0);
        x.unit(0, 1);
        for (int n = 0; n < 3; n++) {
            int messages = x.about(2);
            due("14 run(" + n + ") of 3", x.run(n), -11);
            due("14 STEPS that were taken", x.about(4), n);
            due("14 RULES that were done", x.about(2), messages + n);
        }
        due("14 run(3) of 3", x.run(3), 1);
        due("14 three STEPS", x.about(4), 3);
        x.anew();
        due("14 run(4) of 3", x.run(4), 1);
        due("14 three STEPS again", x.about(4), 3);
    }

    // Promise 14: "A RUN of up to n STEPS": of all PROCESSORS, UNITS and ROUNDS together
    private static void stepsAreOfAllProcessors() {
        PlugRounds x = with(0, MAKE, 9, 2, 1, TELL, 0, 0);
        plug(x, 0, TELL, 0, 0, 1, TELL, 0, 0, END, TELL, 0, 0);
        x.unit(0, 1);
        int[] ofFirst = {0, 1, 1, 2, 2};
        int[] ofSecond = {0, 0, 1, 1, 2};
        int[] rounds = {1, 1, 2, 2, 2};
        for (int n = 0; n < 5; n++) {
            due("14 run(" + n + ") of 5", x.run(n), SPENT);
            due("14 STEPS", x.about(4), n);
            due("14 STEPS of PROCESSOR 0", x.told(0, 3), ofFirst[n]);
            due("14 STEPS of PROCESSOR 1", x.told(1, 3), ofSecond[n]);
            due("14 ROUNDS", x.about(5), rounds[n]);
        }
        due("14 run(5) of 5", x.run(5), 2);
        due("14 STEPS of PROCESSOR 0", x.told(0, 3), 2);
        due("14 STEPS of PROCESSOR 1", x.told(1, 3), 3);
    }

    // Terms 2: "To do a RULE takes a STEP; if none is left, the RUN is SPENT": at the END, too
    private static void stepsAtTheEnd() {
        PlugRounds x = with(END, WRITE, 0, 1, END, WRITE, 0, 2);
        x.unit(0, 0);
        due("14 run(1) of 2", x.run(1), SPENT);
        due("14 nothing is written", x.about(10), 0);
        due("14 STEPS", x.about(4), 1);
        due("14 run(2) of 2", x.run(2), 1);
        dueBytes("14 all of it", x, 0, 1, 2);
    }

    // Terms 2: "To do a RULE takes a STEP": what is not done (no MARK, CLAIMED, passed over, STOPPED) takes none
    private static void whatIsNotDoneTakesNone() {
        PlugRounds x = with(1, TELL, 0, 0, 0, CLAIM, 0, 0, 0, SKIP, 0, 1, 0, TELL, 0, 0, 0, THROW, 0, 0, 0, TELL, 0, 0);
        plug(x, 0, TELL, 0, 0);
        x.pass(true);
        x.unit(0, 1);
        due("14 run(2)", x.run(2), SPENT);
        due("14 run(3)", x.run(3), 1);
        due("14 STEPS", x.about(4), 3);
    }

    // Terms 2: "4 THROW: MESSAGE 5", "if that does not PASS, the RUN is REFUSED": on the last STEP that is left
    private static void throwOnTheLastStep() {
        PlugRounds x = with(0, TELL, 1, 0, 0, THROW, 2, 0, 0, TELL, 3, 0);
        x.unit(0, 1);
        due("14 run(2)", x.run(2), REFUSED);
        due("14 STEPS", x.about(4), 2);
        dueMessages(x, row(0, 0, 0, 1, 1), row(5, 0, 0, 2, 1));
    }

    // Terms 2: "if none is left, the RUN is SPENT": ahead of a THROW, which is not done then
    private static void throwWithoutAStep() {
        PlugRounds x = with(0, TELL, 1, 0, 0, THROW, 2, 0);
        x.unit(0, 1);
        due("14 run(1)", x.run(1), SPENT);
        dueMessages(x, row(0, 0, 0, 1, 1));
        due("14 not STOPPED", x.told(0, 2), 0);
    }

    /**
     * A RUN that left UNITS, bytes and a CELL; then a PROCESSOR 1 that changes such in ROUND 1 (MARK 0), in ROUND 2
     * (MARK 1) and at the END, in 10 STEPS with one of PROCESSOR 0, and does the ACT at the RULES of one MARK, too.
     */
    private static PlugRounds busy(int mark, int act, int a, int b) {
        PlugRounds x = with(4, MAKE, 20, 0, 4, WRITE, 0, 77, 4, WRITE, 1, 78, 4, WRITE, 2, 79, 4, WRITE, 3, 80,
            4, ADD, 50, 0, 0, ADD, 9, 0);
        units(x, 0, 2, 16);
        due("14 the RUN ahead", x.run(1000), 2);
        plug(x, 0, ADD, 1, 0, 0, WRITE, 0, 1, 0, MAKE, 40, 2, 1, ADD, 2, 0, 1, WRITE, 3, 2, 1, MAKE, 41, 0,
            END, ADD, 4, 0, END, WRITE, 1, 3, END, MAKE, 42, 1, mark, act, a, b);
        x.marks(0, 1);
        x.marks(2, 0);
        return x;
    }

    private static void dueTakenBack(PlugRounds x, int n, int want, int rounds) {
        String before = kept(x);
        int messages = x.about(2);
        due("14 run", x.run(n), want);
        holds("14 UNITS, NEW ones, CELLS, RESOURCES are as ahead of it", kept(x).equals(before));
        due("14 ROUNDS of it", x.about(5), rounds);
        due("14 UNITS that it MADE", x.about(6), 0);
        holds("14 MESSAGES stay", x.about(2) >= messages);
    }

    // Terms 2: "Behind a RUN that is SPENT or REFUSED UNITS, which ones are NEW, CELLS, RESOURCES are as ahead of it"
    // (here SPENT)
    private static void spentInEachPlace() {
        int[] rounds = {1, 1, 1, 1, 2, 2, 2, 3, 3, 3};
        for (int n = 0; n < rounds.length; n++) {
            PlugRounds x = busy(7, TELL, 0, 0);
            dueTakenBack(x, n, SPENT, rounds[n]);
            due("14 its STEPS", x.about(4), n);
        }
        PlugRounds x = busy(7, TELL, 0, 0);
        due("14 a STEP more is enough", x.run(10), 3);
        due("14 MADE then", x.about(6), 3);
        dueTakenBack(busy(0, WORK, 255, 255), 1000, SPENT, 1);
        dueTakenBack(busy(1, WORK, 255, 255), 1000, SPENT, 2);
        dueTakenBack(busy(END, WORK, 255, 255), 1000, SPENT, 3);
    }

    // Terms 2: "Behind a RUN that is SPENT or REFUSED UNITS, which ones are NEW, CELLS, RESOURCES are as ahead of it"
    // (here REFUSED); Promise 14: "-12 REFUSED"
    private static void refusedInEachPlace() {
        dueTakenBack(busy(0, THROW, 1, 1), 1000, -12, 1);
        dueTakenBack(busy(1, THROW, 1, 1), 1000, -12, 2);
        dueTakenBack(busy(END, THROW, 1, 1), 1000, -12, 3);
    }

    // Terms 2: "UNITS", "are as ahead of it": also when the RUN had MADE the 40th
    private static void fullUnitsAreTakenBack() {
        PlugRounds x = with(0, MAKE, 60, 1, 0, MAKE, 61, 1, 0, THROW, 0, 0);
        units(x, 0, 38, 0);
        x.run(0);
        x.marks(5, 1);
        due("14 REFUSED", x.run(9), REFUSED);
        due("14 UNITS", x.about(0), 39);
        due("14 NEW ones", x.about(3), 1);
        due("14 MESSAGE 4", x.message(0, 0), 4);
        due("14 there is room for one", x.unit(60, 3), 39);
        due("14 and no more", x.unit(61, 3), FULL);
        dueUnit(x, 39, 60, 3, 1, NONE, 0);
    }

    // Terms 2: "RESOURCES are as ahead of it": also when the RUN had filled one
    private static void fullResourcesAreTakenBack() {
        PlugRounds x = with(times(12, 0, WRITE, 2, 7));
        plug(x, 1, THROW, 0, 0);
        x.unit(0, 1);
        x.run(100);
        due("14 bytes", x.about(12), 12);
        units(x, 1, 8, 1);
        x.marks(0, 3);
        due("14 REFUSED", x.run(1000), REFUSED);
        due("14 MESSAGES of a full RESOURCE", x.about(2), 12 * 9 - 88 + 1);
        due("14 bytes as ahead of it", x.about(12), 12);
        due("14 no byte behind them", resource(x, 2, 12), AIOOBE);
    }

    // Terms 2: "CELLS", "are as ahead of it": also one that wrapped, or was ASKED for
    private static void wrappedCellsAreTakenBack() {
        PlugRounds x = with(0, ASK, 0, 0, 1, ADD, 1, 0, 2, ASK, 1, 0, 1, THROW, 0, 0);
        plug(x, 0, ADD, 5, 0, 1, ADD, 5, 0);
        x.option(0, MAX);
        x.unit(0, 1);
        x.run(9);
        due("14 the CELL", cell(x, 0), MAX);
        x.marks(0, 6);
        due("14 REFUSED", x.run(9), REFUSED);
        due("14 the CELL as ahead of it", cell(x, 0), MAX);
        due("14 the other CELL", cell(x, 1), 5);
    }

    // Terms 2: "MESSAGES stay"
    private static void messagesStay() {
        PlugRounds x = with(0, TELL, 1, 1, 0, MAKE, 9, 2, 1, TELL, 2, 2, 1, THROW, 3, 0);
        x.unit(0, 1);
        due("14 REFUSED", x.run(9), REFUSED);
        int[][] all = {{1, 0, 0, 1, 1}, {2, 0, 9, 2, 2}, {5, 0, 9, 3, 2}, {1, 0, 0, 1, 1}, {2, 0, 9, 2, 2}};
        dueMessages(x, all[0], all[1], all[2]);
        due("14 SPENT", x.run(3), SPENT);
        dueMessages(x, all);
    }

    // Terms 2: "are as ahead of it": so with more STEPS, or with PASS, the same RUN is made
    private static void takenBackRunCanBeMadeAgain() {
        PlugRounds x = with(0, WRITE, 0, 1, 0, ADD, 3, 0, 0, MAKE, 9, 2, 1, WRITE, 0, 2, 1, THROW, 0, 0);
        x.unit(0, 1);
        due("14 SPENT", x.run(4), SPENT);
        due("14 REFUSED", x.run(5), REFUSED);
        x.pass(true);
        due("14 made", x.run(5), 2);
        dueBytes("14 once", x, 0, 1, 2);
        due("14 CELL", cell(x, 0), 3);
        due("14 UNITS", x.about(0), 2);
        dueUnit(x, 1, 9, 2, 0, 0, 1);
    }

    // Terms 2: "if that does not PASS, the RUN is REFUSED": nothing is done behind it
    private static void refusedStopsAllOthers() {
        PlugRounds x = with(0, THROW, 1, 0, 0, TELL, 2, 0, END, TELL, 3, 0);
        plug(x, 0, TELL, 4, 0, END, TELL, 5, 0);
        x.unit(0, 1);
        x.unit(1, 1);
        due("14 REFUSED", x.run(100), REFUSED);
        dueMessages(x, row(5, 0, 0, 1, 1));
        due("14 STEPS", x.about(4), 1);
        due("14 STEPS of the other", x.told(1, 3), 0);
    }

    // Terms 2: "Else no UNIT is NEW": neither those of ROUND 1 nor those that were MADE in a ROUND
    private static void noneIsNewBehind() {
        PlugRounds x = with(0, MAKE, 9, 2, 1, MAKE, 10, 0);
        units(x, 0, 2, 1);
        due("14 run", x.run(100), 3);
        due("14 NEW ones", x.about(3), 0);
        for (int u = 0; u < 5; u++) {
            due("14 NEW " + u, x.mirror(u, 2), 0);
        }
    }

    // Terms 2: "no UNIT is NEW but those that were MADE at the END"
    private static void thoseMadeAtTheEndAreNew() {
        PlugRounds x = with(0, MAKE, 9, 0, END, MAKE, 10, 1, END, MAKE, 11, 0);
        plug(x, END, MAKE, 12, 2);
        x.unit(0, 1);
        due("14 run", x.run(100), 2);
        int[] isNew = {0, 0, 1, 1, 1};
        for (int u = 0; u < isNew.length; u++) {
            due("14 NEW " + u, x.mirror(u, 2), isNew[u]);
        }
        due("14 the next RUN has them", x.run(100), 1);
        due("14 and then no more", x.about(3), 0);
        due("14 nor the one behind it", x.run(100), 0);
    }

    // Terms 2: "which ones are NEW", "as ahead of it"
    private static void newStaysBehindASpentRun() {
        PlugRounds x = with(0, TELL, 0, 0, END, MAKE, 9, 0, END, TELL, 0, 0);
        units(x, 0, 3, 1);
        x.run(100);
        x.marks(1, 1);
        x.marks(3, 1);
        int[] isNew = {0, 1, 0, 1, 1};
        due("14 SPENT", x.run(3), SPENT);
        for (int u = 0; u < isNew.length; u++) {
            due("14 NEW " + u, x.mirror(u, 2), isNew[u]);
        }
    }
}
