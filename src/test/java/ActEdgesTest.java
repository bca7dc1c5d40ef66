/** The ten ACTS at their edges: Terms 2, and Promise 14, whose RUN does them. */
public final class ActEdgesTest extends Check {
    public static void main(String[] args) {
        claiming();
        making();
        telling();
        adding();
        throwing();
        working();
        changing();
        writing();
        skipping();
        asking();
        eachActDoesItsOwnAlone();
        end("ActEdgesTest");
    }

    private static void claiming() {
        claimAtTheEndIsNothing();
        claimTellsNothing();
    }

    private static void making() {
        makeOfFirstAndLastName();
        makeOfAllMarks();
        makeOfATakenName();
        makeOfTheFortieth();
        makeOfTheFortyFirst();
        makeOfATakenNameAmongForty();
        makeAtTheEnd();
        makeAtTheEndOfATakenName();
        makeAtTheEndOfTheFortieth();
        makeOfItself();
    }

    private static void telling() {
        tellNoteWarningFault();
        tellOfEachA();
    }

    private static void adding() {
        addOfBothSides();
        addWrapsAbove();
        addWrapsBelow();
        addAtTheEnd();
        addLeavesOtherCells();
    }

    private static void throwing() {
        throwTellsAndStops();
        throwThatPasses();
        throwThatDoesNotPass();
        throwOfAll();
        throwAtTheEnd();
    }

    private static void working() {
        workOfNone();
        workOfOne();
        workOfTheMost();
        workJustPaid();
        workNotPaid();
        workAtTheEnd();
        workIsOfItsProcessor();
    }

    private static void changing() {
        changeMayNot();
        changeAtTheEnd();
    }

    private static void writing() {
        writeOfFirstAndLastResource();
        writeOfEachByte();
        writeOfTheHundredth();
        writeOfTheHundredAndFirst();
        writeBehindAnother();
        writeAtTheEnd();
    }

    private static void skipping() {
        skipFromAOn();
        skipOfANegativeCell();
        skipOfTheLargestA();
        skipOfNone();
        skipUpToTheLast();
        skipBeyondTheLast();
        skipCountsWhatIsNotDone();
        skipEndsWithItsUnit();
        skipOverASkip();
        skipAtTheEnd();
        skipTellsNothing();
    }

    private static void asking() {
        askOfFirstAndLastOption();
        askOfEachInt();
        askAsItIsNow();
        askAtTheEnd();
    }

    // Terms 2: "0 CLAIM: the MARK is CLAIMED in this ROUND (at the END: nothing)"
    private static void claimAtTheEndIsNothing() {
        PlugRounds x = with(END, CLAIM, 0, 0, END, TELL, 1, 0);
        plug(x, END, TELL, 2, 0, 7, TELL, 3, 0);
        x.unit(0, 0);
        due("CLAIM at the END", x.run(3), 1);
        dueMessages(x, row(0, 0, NONE, 1, 2), row(0, 1, NONE, 2, 2));
        x.marks(0, 255);
        due("the next RUN", x.run(4), 1);
        due("no MARK is CLAIMED of it", x.message(2, 3), 3);
    }

    // Terms 2: "0 CLAIM: the MARK is CLAIMED in this ROUND": a and b, up to 255, are nothing to it
    private static void claimTellsNothing() {
        PlugRounds x = with(0, CLAIM, 255, 255);
        x.unit(0, 1);
        due("CLAIM", x.run(1), 1);
        dueMessages(x);
        due("the CELL", cell(x, 0), 0);
        due("UNITS", x.about(0), 1);
    }

    // Terms 2: "1 MAKE: a UNIT of NAME a with MARKS b": NAMES 0 and 63
    private static void makeOfFirstAndLastName() {
        PlugRounds x = with(0, MAKE, 0, 0, 0, MAKE, 63, 0);
        x.unit(30, 1);
        due("MAKE", x.run(2), 2);
        dueUnit(x, 1, 0, 0, 0, 0, 1);
        dueUnit(x, 2, 63, 0, 0, 0, 1);
        dueMessages(x);
        due("MADE", x.about(6), 2);
    }

    // Terms 2: "1 MAKE: a UNIT of NAME a with MARKS b": no MARK and all MARKS
    private static void makeOfAllMarks() {
        PlugRounds x = with(0, MAKE, 1, 255, 0, MAKE, 2, 0, 7, TELL, 9, 0);
        x.unit(0, 1);
        due("MAKE", x.run(100), 2);
        dueUnit(x, 1, 1, 255, 0, 0, 1);
        dueUnit(x, 2, 2, 0, 0, 0, 1);
        dueMessages(x, row(3, 0, 1, 1, 2), row(3, 0, 1, 2, 2), row(0, 0, 1, 9, 2));
    }

    // Terms 2: "MESSAGE 3, if there is one of this NAME"
    private static void makeOfATakenName() {
        PlugRounds x = with(0, MAKE, 0, 7, 0, MAKE, 63, 7, 0, MAKE, 9, 4, 0, MAKE, 9, 5);
        x.unit(0, 0);
        x.unit(1, 1);
        x.unit(63, 0);
        due("MAKE", x.run(4), 2);
        dueMessages(x, row(3, 0, 1, 0, 1), row(3, 0, 1, 63, 1), row(3, 0, 1, 9, 1));
        due("one is MADE", x.about(6), 1);
        dueUnit(x, 0, 0, 0, 0, NONE, 0);
        dueUnit(x, 3, 9, 4, 0, 0, 1);
    }

    // Terms 2: "else 4, if there are 40; else it comes": the 40th comes
    private static void makeOfTheFortieth() {
        PlugRounds x = with(0, MAKE, 50, 0);
        units(x, 0, 37, 0);
        x.unit(38, 1);
        due("MAKE", x.run(1), 2);
        dueMessages(x);
        due("UNITS", x.about(0), 40);
        dueUnit(x, 39, 50, 0, 0, 0, 1);
    }

    // Terms 2: "else 4, if there are 40": the 41st does not come
    private static void makeOfTheFortyFirst() {
        PlugRounds x = with(0, MAKE, 50, 0, 0, MAKE, 51, 0);
        units(x, 0, 38, 0);
        x.unit(39, 1);
        due("MAKE", x.run(2), 1);
        dueMessages(x, row(4, 0, 39, 50, 1), row(4, 0, 39, 51, 1));
        due("UNITS", x.about(0), 40);
        due("none is MADE", x.about(6), 0);
    }

    // Terms 2: "MESSAGE 3, if there is one of this NAME, else 4, if there are 40": of both the first
    private static void makeOfATakenNameAmongForty() {
        PlugRounds x = with(0, MAKE, 39, 0, END, MAKE, 0, 0);
        units(x, 0, 38, 0);
        x.unit(39, 1);
        due("MAKE", x.run(2), 1);
        dueMessages(x, row(3, 0, 39, 39, 1), row(3, 0, NONE, 0, 2));
    }

    // Terms 2: "else it comes (at the END: MESSAGE 7, too)"
    private static void makeAtTheEnd() {
        PlugRounds x = with(0, MAKE, 1, 0, END, MAKE, 2, 255);
        x.unit(0, 1);
        due("MAKE", x.run(2), 2);
        dueMessages(x, row(7, 0, NONE, 2, 3));
        dueUnit(x, 2, 2, 255, 1, 0, 3);
        due("MADE", x.about(6), 2);
    }

    // Terms 2: "MESSAGE 3, if there is one of this NAME": at the END, without MESSAGE 7
    private static void makeAtTheEndOfATakenName() {
        PlugRounds x = with(END, MAKE, 0, 0, END, MAKE, 1, 0, END, MAKE, 1, 0);
        x.unit(0, 1);
        due("MAKE", x.run(3), 1);
        dueMessages(x, row(3, 0, NONE, 0, 2), row(7, 0, NONE, 1, 2), row(3, 0, NONE, 1, 2));
    }

    // Terms 2: "else 4, if there are 40; else it comes (at the END: MESSAGE 7, too)": the 40th and the 41st at the END
    private static void makeAtTheEndOfTheFortieth() {
        PlugRounds x = with(END, MAKE, 50, 0, END, MAKE, 51, 0);
        units(x, 0, 38, 0);
        due("MAKE", x.run(2), 1);
        dueMessages(x, row(7, 0, NONE, 50, 2), row(4, 0, NONE, 51, 2));
        due("UNITS", x.about(0), 40);
        dueUnit(x, 39, 50, 0, 1, 0, 2);
    }

    // Terms 2: "each other one the UNITS that were MADE in the one before": one that MAKES its own NAME goes round once
    private static void makeOfItself() {
        PlugRounds x = with(0, MAKE, 5, 1, 0, MAKE, 6, 1);
        x.unit(5, 1);
        due("MAKE", x.run(100), 2);
        dueMessages(x, row(3, 0, 5, 5, 1), row(3, 0, 6, 5, 2), row(3, 0, 6, 6, 2));
    }

    // Terms 2: "2 TELL: MESSAGE b: 0 a note, 1 a warning, 2 a fault"
    private static void tellNoteWarningFault() {
        PlugRounds x = with(0, TELL, 9, 0, 0, TELL, 9, 1, 0, TELL, 9, 2, END, TELL, 9, 2, END, TELL, 9, 0);
        x.unit(63, 1);
        due("TELL", x.run(5), 1);
        dueMessages(x, row(0, 0, 63, 9, 1), row(1, 0, 63, 9, 1), row(2, 0, 63, 9, 1),
            row(2, 0, NONE, 9, 2), row(0, 0, NONE, 9, 2));
    }

    // Terms 2: "what, PROCESSOR, UNIT (NONE at the END), a, ROUND": a is 0 .. 255, without sign
    private static void tellOfEachA() {
        PlugRounds x = with(0, TELL, 0, 0, 0, TELL, 127, 0, 0, TELL, 128, 0, 0, TELL, 255, 0);
        x.unit(0, 1);
        x.run(4);
        dueMessages(x, row(0, 0, 0, 0, 1), row(0, 0, 0, 127, 1), row(0, 0, 0, 128, 1), row(0, 0, 0, 255, 1));
    }

    private static int cellBehind(int first, int... parts) {
        PlugRounds x = with(join(row(0, ASK, 0, 0), parts));
        x.option(0, first);
        x.unit(0, 1);
        due("a RUN of ADD", x.run(12), 1);
        return cell(x, 0);
    }

    // Terms 2: "3 ADD: the CELL and a (above 127: less 256)"
    private static void addOfBothSides() {
        for (int a = 0; a < 256; a++) {
            due("ADD " + a, cellBehind(1000, 0, ADD, a, 77), 1000 + (byte) a);
        }
        due("ADD 127 of a new CELL", cellBehind(0, 0, ADD, 127, 0), 127);
        due("ADD 128 of a new CELL", cellBehind(0, 0, ADD, 128, 0), -128);
        due("ADD twice", cellBehind(0, 0, ADD, 127, 0, 0, ADD, 127, 0), 254);
    }

    // Terms 1: "a CELL (an int, wrapping)": above the largest int
    private static void addWrapsAbove() {
        due("up to the largest", cellBehind(MAX - 127, 0, ADD, 127, 0), MAX);
        due("one beyond it", cellBehind(MAX - 126, 0, ADD, 127, 0), MIN);
        due("largest and 1", cellBehind(MAX, 0, ADD, 1, 0), MIN);
        due("largest and 127", cellBehind(MAX, 0, ADD, 127, 0), MIN + 126);
        due("there and back", cellBehind(MAX, 0, ADD, 1, 0, 0, ADD, 255, 0), MAX);
    }

    // Terms 1: "a CELL (an int, wrapping)": below the smallest int
    private static void addWrapsBelow() {
        due("down to the smallest", cellBehind(MIN + 128, 0, ADD, 128, 0), MIN);
        due("one beyond it", cellBehind(MIN + 127, 0, ADD, 128, 0), MAX);
        due("smallest less 1", cellBehind(MIN, 0, ADD, 255, 0), MAX);
        due("smallest less 128", cellBehind(MIN, 0, ADD, 128, 0), MAX - 127);
    }

    // Terms 2: "3 ADD": at the END, too
    private static void addAtTheEnd() {
        due("ADD at the END", cellBehind(5, END, ADD, 128, 0, END, ADD, 1, 0), -122);
    }

    // Terms 2: "3 ADD: the CELL and a": the PROCESSOR's own
    private static void addLeavesOtherCells() {
        PlugRounds x = with(1, ADD, 1, 0);
        plug(x, 0, ADD, 2, 0);
        plug(x, 1, ADD, 3, 0);
        x.unit(0, 1);
        x.run(9);
        due("cell(0)", cell(x, 0), 0);
        due("cell(1)", cell(x, 1), 2);
        due("cell(2)", cell(x, 2), 0);
    }

    // Terms 2: "4 THROW: MESSAGE 5; the PROCESSOR is STOPPED (for this RUN, at once)"
    private static void throwTellsAndStops() {
        for (boolean passes : new boolean[] {false, true}) {
            PlugRounds x = with(0, THROW, 255, 255, 0, TELL, 1, 0);
            x.pass(passes);
            x.unit(7, 1);
            due("THROW", x.run(9), passes ? 1 : REFUSED);
            dueMessages(x, row(5, 0, 7, 255, 1));
            due("STOPPED", x.told(0, 2), 1);
            due("STEPS", x.told(0, 3), 1);
        }
    }

    // Terms 2: "if that does not PASS, the RUN is REFUSED": if it does, what was done stays and the RUN goes on
    private static void throwThatPasses() {
        PlugRounds x = with(0, ADD, 5, 0, 0, WRITE, 0, 6, 0, MAKE, 9, 2, 0, THROW, 0, 0);
        plug(x, 1, WRITE, 0, 7);
        x.pass(true);
        x.unit(0, 1);
        due("THROW", x.run(5), 2);
        due("the CELL", cell(x, 0), 5);
        dueBytes("WRITE", x, 0, 6, 7);
        due("MADE", x.about(6), 1);
        due("none is NEW", x.about(3), 0);
    }

    // Terms 2: "if that does not PASS, the RUN is REFUSED"
    private static void throwThatDoesNotPass() {
        PlugRounds x = with(0, ADD, 5, 0, 0, WRITE, 0, 6, 0, MAKE, 9, 2, 0, THROW, 0, 0);
        x.unit(0, 1);
        due("THROW", x.run(100000), REFUSED);
        due("the CELL", cell(x, 0), 0);
        dueBytes("WRITE", x, 0);
        due("UNITS", x.about(0), 1);
        due("STEPS", x.about(4), 4);
        due("NEW ones", x.about(3), 1);
    }

    // Terms 2: "the PROCESSOR is STOPPED": if all six are, the ROUNDS go on without them
    private static void throwOfAll() {
        PlugRounds x = new PlugRounds();
        x.pass(true);
        for (int p = 0; p < 6; p++) {
            plug(x, 0, MAKE, 10 + p, 1, 0, THROW, p, 0, END, TELL, 0, 0);
        }
        x.unit(0, 1);
        due("THROW of all", x.run(12), 2);
        for (int p = 0; p < 6; p++) {
            due("STOPPED", x.told(p, 2), 1);
        }
        dueMessages(x, row(5, 0, 0, 0, 1), row(5, 1, 0, 1, 1), row(5, 2, 0, 2, 1), row(5, 3, 0, 3, 1),
            row(5, 4, 0, 4, 1), row(5, 5, 0, 5, 1));
    }

    // Terms 2: "4 THROW": at the END, too
    private static void throwAtTheEnd() {
        PlugRounds x = with(END, WRITE, 0, 1, END, THROW, 3, 0, END, WRITE, 0, 2);
        x.unit(0, 0);
        due("THROW at the END", x.run(9), REFUSED);
        dueBytes("REFUSED", x, 0);
        x.pass(true);
        due("THROW that does PASS", x.run(9), 1);
        dueBytes("it PASSES", x, 0, 1);
        dueMessages(x, row(5, 0, NONE, 3, 2), row(5, 0, NONE, 3, 2));
    }

    // Terms 2: "5 WORK: a times b STEPS more": none, if one of both is 0
    private static void workOfNone() {
        PlugRounds x = with(0, WORK, 0, 0, 0, WORK, 0, 255, 0, WORK, 255, 0);
        x.unit(0, 1);
        due("WORK of none", x.run(3), 1);
        due("STEPS", x.about(4), 3);
    }

    // Terms 2: "5 WORK: a times b STEPS more": one more
    private static void workOfOne() {
        PlugRounds x = with(0, WORK, 1, 1);
        x.unit(0, 1);
        due("one STEP", x.run(1), SPENT);
        due("STEPS", x.about(4), 1);
        due("two STEPS", x.run(2), 1);
        due("STEPS then", x.about(4), 2);
    }

    // Terms 2: "5 WORK: a times b STEPS more": 255 times 255, without sign
    private static void workOfTheMost() {
        PlugRounds x = with(0, WORK, 255, 255, 1, WORK, 128, 200);
        x.unit(0, 1);
        due("one too few", x.run(65025), SPENT);
        due("just enough", x.run(65026), 1);
        due("STEPS", x.about(4), 65026);
        x.marks(0, 2);
        due("one too few again", x.run(25600), SPENT);
        due("just enough again", x.run(25601), 1);
    }

    // Terms 2: "if there are not so many left, the RUN is SPENT": just so many are left
    private static void workJustPaid() {
        PlugRounds x = with(0, TELL, 0, 0, 0, WORK, 3, 4);
        x.unit(0, 1);
        due("just enough", x.run(14), 1);
        due("STEPS", x.about(4), 14);
        due("STEPS of the PROCESSOR", x.told(0, 3), 14);
        PlugRounds y = with(0, WORK, 3, 4, 0, TELL, 1, 0);
        y.unit(0, 1);
        due("none left for the next RULE", y.run(13), SPENT);
        dueMessages(y);
        due("one left for it", y.run(14), 1);
    }

    // Terms 2: "if there are not so many left, the RUN is SPENT": the STEP of its own RULE was taken
    private static void workNotPaid() {
        PlugRounds x = with(0, TELL, 0, 0, 0, WORK, 3, 4, 0, TELL, 1, 0);
        x.unit(0, 1);
        for (int n : new int[] {13, 12, 3, 2}) {
            due("not enough", x.run(n), SPENT);
            due("STEPS", x.about(4), 2);
            due("STEPS of the PROCESSOR", x.told(0, 3), 2);
        }
        due("no STEP for the RULE itself", x.run(1), SPENT);
        due("STEPS then", x.about(4), 1);
        due("nothing was told behind it", x.message(x.about(2) - 1, 3), 0);
    }

    // Terms 2: "5 WORK": at the END, too
    private static void workAtTheEnd() {
        PlugRounds x = with(END, WORK, 2, 5);
        x.unit(0, 0);
        due("one too few", x.run(10), SPENT);
        due("STEPS", x.about(4), 1);
        due("just enough", x.run(11), 1);
        due("STEPS then", x.about(4), 11);
    }

    // Promise 17: "how many STEPS it took in that (3)": those of WORK, too, and of no other PROCESSOR
    private static void workIsOfItsProcessor() {
        PlugRounds x = with(0, WORK, 10, 10);
        plug(x, 0, WORK, 2, 3);
        x.unit(0, 1);
        due("WORK of both", x.run(108), 1);
        due("STEPS of the first", x.told(0, 3), 101);
        due("STEPS of the second", x.told(1, 3), 7);
    }

    // Terms 2: "6 CHANGE: it may not: MESSAGE 6": nothing is changed
    private static void changeMayNot() {
        PlugRounds x = with(0, CHANGE, 0, 255, 0, CHANGE, 255, 0);
        x.unit(0, 1);
        x.unit(1, 4);
        due("CHANGE", x.run(2), 1);
        dueMessages(x, row(6, 0, 0, 0, 1), row(6, 0, 0, 255, 1));
        dueUnit(x, 0, 0, 1, 0, NONE, 0);
        dueUnit(x, 1, 1, 4, 0, NONE, 0);
        due("the CELL", cell(x, 0), 0);
        due("not STOPPED", x.told(0, 2), 0);
    }

    // Terms 2: "6 CHANGE: it may not: MESSAGE 6": at the END without a UNIT
    private static void changeAtTheEnd() {
        PlugRounds x = with(END, CHANGE, 8, 9);
        x.unit(0, 1);
        due("CHANGE", x.run(1), 1);
        dueMessages(x, row(6, 0, NONE, 8, 2));
    }

    // Terms 2: "7 WRITE: b comes behind RESOURCE a": RESOURCES 0 to 3
    private static void writeOfFirstAndLastResource() {
        PlugRounds x = with(0, WRITE, 0, 10, 0, WRITE, 1, 11, 0, WRITE, 2, 12, 0, WRITE, 3, 13);
        x.unit(0, 1);
        due("WRITE", x.run(4), 1);
        for (int r = 0; r <= 3; r++) {
            dueBytes("WRITE", x, r, 10 + r);
        }
        dueMessages(x);
    }

    // Terms 2: "7 WRITE: b comes behind RESOURCE a": b is 0 .. 255
    private static void writeOfEachByte() {
        PlugRounds x = with(0, WRITE, 1, 0, 0, WRITE, 1, 127, 0, WRITE, 1, 128, 0, WRITE, 1, 255);
        x.unit(0, 1);
        x.run(4);
        dueBytes("WRITE", x, 1, 0, 127, 128, 255);
    }

    /** RESOURCE r has 99 bytes, 8 times 1 to 12 and then 1, 2, 3; the next RUN may WRITE with MARKS 4 and 5. */
    private static PlugRounds ninetyNine(int r) {
        int[] parts = new int[0];
        for (int k = 1; k <= 12; k++) {
            parts = join(parts, k <= 3 ? 1 : 0, WRITE, r, k);
        }
        PlugRounds x = with(parts);
        plug(x, 4, WRITE, r, 200, 5, WRITE, r, 201, 5, WRITE, (r + 1) % 4, 202);
        units(x, 0, 7, 3);
        x.unit(8, 2);
        due("99 bytes", x.run(99), 1);
        due("99 bytes are there", x.about(10 + r), 99);
        return x;
    }

    // Terms 2: "MESSAGE 4, if that has 100 bytes": the 100th comes
    private static void writeOfTheHundredth() {
        for (int r = 0; r <= 3; r++) {
            PlugRounds x = ninetyNine(r);
            x.marks(0, 16);
            due("WRITE", x.run(1), 1);
            due("bytes", x.about(10 + r), 100);
            due("the 100th", resource(x, r, 99), 200);
            due("none behind it", resource(x, r, 100), AIOOBE);
            dueMessages(x);
        }
    }

    // Terms 2: "MESSAGE 4, if that has 100 bytes": the 101st does not come
    private static void writeOfTheHundredAndFirst() {
        for (int r = 0; r <= 3; r++) {
            PlugRounds x = ninetyNine(r);
            x.marks(0, 48);
            due("WRITE", x.run(3), 1);
            due("bytes", x.about(10 + r), 100);
            due("the 100th", resource(x, r, 99), 200);
            due("none behind it", resource(x, r, 100), AIOOBE);
            dueMessages(x, row(4, 1, 0, r, 1));
            dueBytes("another RESOURCE has room", x, (r + 1) % 4, 202);
            due("the first byte stays", resource(x, r, 0), 1);
        }
    }

    // Terms 2: "b comes behind RESOURCE a": over all RUNS
    private static void writeBehindAnother() {
        PlugRounds x = with(0, WRITE, 3, 1, 1, WRITE, 3, 2);
        x.unit(0, 1);
        x.run(9);
        x.marks(0, 2);
        x.run(9);
        x.marks(0, 3);
        x.run(9);
        dueBytes("WRITE", x, 3, 1, 2, 1, 2);
    }

    // Terms 2: "7 WRITE", "MESSAGE 4, if that has 100 bytes": at the END without a UNIT
    private static void writeAtTheEnd() {
        PlugRounds x = ninetyNine(2);
        plug(x, END, WRITE, 2, 210, END, WRITE, 2, 211);
        x.marks(0, 0);
        due("WRITE at the END", x.run(2), 1);
        due("the 100th", resource(x, 2, 99), 210);
        dueMessages(x, row(4, 2, NONE, 2, 2));
    }

    /** Whether SKIP a passes over a RULE, if the CELL is this. */
    private static boolean skips(int value, int a) {
        PlugRounds x = with(0, ASK, 0, 0, 0, SKIP, a, 1, 0, TELL, 1, 0);
        x.option(0, value);
        x.unit(0, 1);
        due("SKIP", x.run(3), 1);
        due("STEPS of SKIP", x.about(4), x.about(2) == 0 ? 2 : 3);
        return x.about(2) == 0;
    }

    // Terms 2: "8 SKIP: if the CELL is a or more"
    private static void skipFromAOn() {
        for (int a : new int[] {0, 1, 2, 127, 128, 129, 254, 255}) {
            holds("SKIP " + a + " of a CELL below", !skips(a - 1, a));
            holds("SKIP " + a + " of the same CELL", skips(a, a));
            holds("SKIP " + a + " of a CELL above", skips(a + 1, a));
            holds("SKIP " + a + " of the smallest CELL", !skips(MIN, a));
            holds("SKIP " + a + " of the largest CELL", skips(MAX, a));
        }
    }

    // Terms 2: "8 SKIP: if the CELL is a or more": a negative CELL is less than 0
    private static void skipOfANegativeCell() {
        holds("SKIP 0 of -1", !skips(-1, 0));
        holds("SKIP 0 of 0", skips(0, 0));
        holds("SKIP 255 of -1", !skips(-1, 255));
        holds("SKIP 255 of -2", !skips(-2, 255));
    }

    // Terms 2: "8 SKIP: if the CELL is a or more": a is 0 .. 255 here, and not less 256 as in ADD
    private static void skipOfTheLargestA() {
        holds("SKIP 128 of 0", !skips(0, 128));
        holds("SKIP 255 of 0", !skips(0, 255));
        holds("SKIP 255 of 254", !skips(254, 255));
        holds("SKIP 255 of 255", skips(255, 255));
    }

    private static PlugRounds skipping(int b) {
        PlugRounds x = with(0, SKIP, 0, b, 0, WRITE, 0, 1, 0, WRITE, 0, 2, 0, WRITE, 0, 3);
        x.unit(0, 1);
        due("SKIP of " + b, x.run(4), 1);
        return x;
    }

    // Terms 2: "the next b RULES are passed over": none
    private static void skipOfNone() {
        dueBytes("SKIP of none", skipping(0), 0, 1, 2, 3);
        dueBytes("SKIP of one", skipping(1), 0, 2, 3);
    }

    // Terms 2: "the next b RULES are passed over": as many as there are, and one less
    private static void skipUpToTheLast() {
        dueBytes("SKIP of two", skipping(2), 0, 3);
        dueBytes("SKIP of three", skipping(3), 0);
    }

    // Terms 2: "the next b RULES are passed over": more than there are
    private static void skipBeyondTheLast() {
        for (int b : new int[] {4, 5, 12, 127, 128, 255}) {
            dueBytes("SKIP of " + b, skipping(b), 0);
        }
        PlugRounds x = with(join(times(11, 0, WRITE, 0, 1), 0, SKIP, 0, 255));
        x.unit(0, 1);
        due("SKIP as the last RULE of 12", x.run(12), 1);
        due("all ahead of it", x.about(10), 11);
    }

    // Terms 2: "the next b RULES are passed over (whether they would be done or not)"
    private static void skipCountsWhatIsNotDone() {
        PlugRounds x = with(0, SKIP, 0, 2, 1, WRITE, 0, 1, END, WRITE, 0, 2, 0, WRITE, 0, 3, 0, WRITE, 0, 4);
        x.unit(0, 1);
        due("SKIP", x.run(9), 1);
        dueBytes("SKIP over those of other MARKS", x, 0, 3, 4, 2);
        PlugRounds y = with(1, CLAIM, 0, 0);
        plug(y, 0, SKIP, 0, 1, 1, WRITE, 0, 5, 0, WRITE, 0, 6);
        y.unit(0, 3);
        due("SKIP", y.run(9), 1);
        dueBytes("SKIP over one that is CLAIMED", y, 0, 6);
    }

    // Terms 2: "the next b RULES are passed over": of this UNIT's meeting; the next UNIT begins with the first RULE
    private static void skipEndsWithItsUnit() {
        PlugRounds x = with(0, WRITE, 0, 1, 0, SKIP, 0, 255, 0, WRITE, 0, 2, END, WRITE, 0, 3);
        plug(x, 0, WRITE, 0, 4);
        x.unit(0, 1);
        x.unit(1, 1);
        due("SKIP", x.run(7), 1);
        dueBytes("SKIP", x, 0, 1, 1, 4, 4, 3);
    }

    // Terms 2: "the next b RULES are passed over": also a SKIP among them
    private static void skipOverASkip() {
        PlugRounds x = with(0, SKIP, 0, 1, 0, SKIP, 0, 255, 0, WRITE, 0, 1, 0, SKIP, 0, 1, 0, WRITE, 0, 2, 0, WRITE, 0, 3);
        x.unit(0, 1);
        due("SKIP", x.run(4), 1);
        dueBytes("SKIP", x, 0, 1, 3);
    }

    // Terms 2: "8 SKIP": at the END, too, and there over RULES of other MARKS as well
    private static void skipAtTheEnd() {
        PlugRounds x = with(END, SKIP, 0, 2, 0, WRITE, 0, 1, END, WRITE, 0, 2, END, WRITE, 0, 3);
        x.unit(0, 1);
        due("SKIP", x.run(3), 1);
        dueBytes("SKIP", x, 0, 1, 3);
        PlugRounds y = with(END, SKIP, 1, 1, END, WRITE, 0, 9);
        y.unit(0, 1);
        y.run(9);
        dueBytes("SKIP of a CELL below", y, 0, 9);
    }

    // Terms 2: "8 SKIP": no MESSAGE, and the CELL stays
    private static void skipTellsNothing() {
        PlugRounds x = with(0, ADD, 7, 0, 0, SKIP, 7, 1, 0, SKIP, 8, 1);
        x.unit(0, 1);
        x.run(9);
        dueMessages(x);
        due("the CELL", cell(x, 0), 7);
    }

    // Terms 2: "9 ASK: the CELL becomes OPTION a": OPTIONS 0 to 3
    private static void askOfFirstAndLastOption() {
        for (int i = 0; i <= 3; i++) {
            PlugRounds x = with(0, ADD, 9, 0, 0, ASK, i, 255);
            for (int k = 0; k <= 3; k++) {
                x.option(k, 70 + k);
            }
            x.unit(0, 1);
            due("ASK", x.run(2), 1);
            due("ASK " + i, cell(x, 0), 70 + i);
            due("the OPTION stays", x.option(i, 0), 70 + i);
            dueMessages(x);
        }
    }

    // Terms 2: "9 ASK: the CELL becomes OPTION a": each int
    private static void askOfEachInt() {
        for (int v : new int[] {0, 1, -1, 255, 256, -256, MAX, MIN}) {
            due("ASK for " + v, cellBehind(v), v);
        }
    }

    // Terms 2: "9 ASK: the CELL becomes OPTION a": what that is in this RUN; the CELL stays, when it becomes other
    private static void askAsItIsNow() {
        PlugRounds x = with(0, ASK, 3, 0);
        x.option(3, 5);
        x.unit(0, 1);
        x.run(1);
        x.option(3, 6);
        due("the CELL stays", cell(x, 0), 5);
        x.anew();
        x.run(1);
        due("ASK again", cell(x, 0), 6);
    }

    // Terms 2: "9 ASK": at the END, too
    private static void askAtTheEnd() {
        due("ASK at the END", cellBehind(8, 0, ADD, 1, 0, END, ASK, 0, 0), 8);
    }

    // Terms 2: "ACTS:" each does what is told of it and no more, in a ROUND and at the END
    private static void eachActDoesItsOwnAlone() {
        // ACT, a, b; then what is due: CELL (5 ahead of it), UNITS, bytes of RESOURCES 2 and 3, MESSAGES, STEPS,
        // STOPPED
        int[][] acts = {
            {CLAIM, 3, 2, 5, 1, 0, 0, 0, 1, 0}, {MAKE, 3, 4, 5, 2, 0, 0, 0, 1, 0}, {MAKE, 0, 2, 5, 1, 0, 0, 1, 1, 0},
            {TELL, 3, 2, 5, 1, 0, 0, 1, 1, 0}, {ADD, 3, 2, 8, 1, 0, 0, 0, 1, 0}, {THROW, 3, 2, 5, 1, 0, 0, 1, 1, 1},
            {WORK, 3, 2, 5, 1, 0, 0, 0, 7, 0}, {CHANGE, 3, 2, 5, 1, 0, 0, 1, 1, 0}, {WRITE, 3, 2, 5, 1, 0, 1, 0, 1, 0},
            {WRITE, 2, 3, 5, 1, 1, 0, 0, 1, 0}, {SKIP, 3, 2, 5, 1, 0, 0, 0, 1, 0}, {ASK, 3, 2, 77, 1, 0, 0, 0, 1, 0}};
        for (int[] act : acts) {
            for (int mark : new int[] {0, END}) {
                PlugRounds x = with(mark, act[0], act[1], act[2], 1, ADD, 5, 0);
                x.option(3, 77);
                x.pass(true);
                x.unit(0, 2);
                x.run(mark == END ? 1 + act[8] : 1);
                dueAlone(mark == END ? x : nextRun(x), act, mark);
            }
        }
    }

    private static PlugRounds nextRun(PlugRounds x) {
        x.marks(0, 1);
        x.run(1000);
        return x;
    }

    private static void dueAlone(PlugRounds x, int[] act, int mark) {
        String when = "ACT " + act[0] + " with MARK " + mark + ": ";
        boolean comesAtTheEnd = mark == END && act[0] == MAKE && act[4] == 2;
        due(when + "the CELL", cell(x, 0), act[3]);
        due(when + "UNITS", x.about(0), act[4]);
        dueBytes(when, x, 0);
        dueBytes(when, x, 1);
        due(when + "bytes of RESOURCE 2", x.about(12), act[5]);
        due(when + "bytes of RESOURCE 3", x.about(13), act[6]);
        due(when + "MESSAGES", x.about(2), comesAtTheEnd ? 1 : act[7]);
        due(when + "STEPS", x.about(4), mark == END ? 1 + act[8] : act[8]);
        due(when + "STOPPED", x.told(0, 2), act[9]);
        due(when + "PROCESSORS", x.about(1), 1);
        due(when + "MARKS", x.mirror(0, 1), mark == END ? 2 : 1);
        due(when + "NAME", x.mirror(0, 0), 0);
        due(when + "the OPTION", x.option(3, 0), 77);
        due(when + "PASS", x.pass(false), 1);
        dueOctets(when, x, 5, rules(mark, act[0], act[1], act[2], 1, ADD, 5, 0));
    }
}
