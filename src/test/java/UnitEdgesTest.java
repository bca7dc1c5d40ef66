/** UNITS at their edges: Terms 2, where it tells of them, and Promises 9, 10, 11 and 15. */
public final class UnitEdgesTest extends Check {
    public static void main(String[] args) {
        coming();
        marking();
        renewing();
        mirroring();
        end("UnitEdgesTest");
    }

    private static void coming() {
        unitTakesNamesOfSixBits();
        unitTakesMarksOfEightBits();
        unitIsNumberedAsItComes();
        unitOfATakenNameIsState();
        unitOfTheFortyFirstIsFull();
        outsideComesAheadOfState();
        outsideComesAheadOfFull();
        stateComesAheadOfFull();
        unitIsNewAsItComes();
        unitOfAMadeName();
        eachMarkIsABit();
    }

    private static void marking() {
        marksKnowsUnits();
        marksTakesEightBits();
        marksUnknownComesAheadOfOutside();
        marksAnswersWhatWas();
        marksMakeNew();
        marksOfTheLastOfForty();
    }

    private static void renewing() {
        anewOfNone();
        anewOfAllNew();
        anewOfAllOld();
        anewOfSome();
        anewOfForty();
        anewChangesNothingElse();
    }

    private static void mirroring() {
        mirrorKnowsUnits();
        mirrorTakesFiveKinds();
        mirrorUnknownComesAheadOfOutside();
        mirrorOfOneThatWasNotMade();
        mirrorOfOneThatWasMade();
        mirrorOfOneThatWasMadeAtTheEnd();
        mirrorOfFirstAndLastMaker();
    }

    // Promise 9: "OUTSIDE: NAME"; Terms 2: "have a NAME, 0 .. 63"
    private static void unitTakesNamesOfSixBits() {
        PlugRounds x = new PlugRounds();
        dueEach("9 unit(.., 0)", OUTSIDE, name -> x.unit(name, 0), -1, 64, 65, 128, 256, MIN, MAX);
        due("9 none came", x.about(0), 0);
        due("9 NAME 0", x.unit(0, 0), 0);
        due("9 NAME 63", x.unit(63, 0), 1);
        due("9 mirror NAME 0", x.mirror(0, 0), 0);
        due("9 mirror NAME 63", x.mirror(1, 0), 63);
    }

    // Promise 9: "OUTSIDE: NAME, MARKS (0 .. 255)"
    private static void unitTakesMarksOfEightBits() {
        PlugRounds x = new PlugRounds();
        dueEach("9 unit(5, ..)", OUTSIDE, marks -> x.unit(5, marks), -1, -256, 256, 257, 511, MIN, MAX);
        due("9 none came", x.about(0), 0);
        due("9 MARKS 0", x.unit(5, 0), 0);
        due("9 MARKS 255", x.unit(6, 255), 1);
        due("9 mirror MARKS 0", x.mirror(0, 1), 0);
        due("9 mirror MARKS 255", x.mirror(1, 1), 255);
    }

    // Terms 2: "UNITS, 40 at most, numbered as they come": 0 is the first and 39 the last
    private static void unitIsNumberedAsItComes() {
        PlugRounds x = new PlugRounds();
        for (int k = 0; k < 40; k++) {
            due("9 about(0)", x.about(0), k);
            due("9 number", x.unit(63 - k, k), k);
        }
        due("9 about(0) of all", x.about(0), 40);
        for (int k = 0; k < 40; k++) {
            due("9 NAME of " + k, x.mirror(k, 0), 63 - k);
            due("9 MARKS of " + k, x.mirror(k, 1), k);
        }
    }

    // Promise 9: "STATE: there is one of this NAME"; Terms 2: "no two the same"
    private static void unitOfATakenNameIsState() {
        PlugRounds x = new PlugRounds();
        x.unit(0, 7);
        x.unit(63, 8);
        x.unit(20, 9);
        dueEach("9 unit(.., 1)", STATE, name -> x.unit(name, 1), 0, 63, 20);
        due("9 none came", x.about(0), 3);
        dueUnit(x, 0, 0, 7, 1, NONE, 0);
        dueUnit(x, 2, 20, 9, 1, NONE, 0);
        x.clear();
        due("9 free behind clear", x.unit(63, 1), 0);
    }

    private static PlugRounds forty() {
        PlugRounds x = new PlugRounds();
        units(x, 0, 39, 1);
        return x;
    }

    // Promise 9: "FULL"; Terms 2: "UNITS, 40 at most": the 41st is not taken
    private static void unitOfTheFortyFirstIsFull() {
        PlugRounds x = forty();
        dueEach("9 unit(.., 1) of 40", FULL, name -> x.unit(name, 1), 40, 41, 63);
        due("9 there are 40", x.about(0), 40);
        due("9 no UNIT 40", x.mirror(40, 0), UNKNOWN);
        dueUnit(x, 39, 39, 1, 1, NONE, 0);
        x.clear();
        due("9 room behind clear", x.unit(40, 1), 0);
    }

    // Promise 9: "OUTSIDE: NAME, MARKS (0 .. 255); STATE": of both the first
    private static void outsideComesAheadOfState() {
        PlugRounds x = new PlugRounds();
        x.unit(5, 0);
        dueEach("9 unit(5, ..) of a taken NAME", OUTSIDE, marks -> x.unit(5, marks), -1, 256, MIN, MAX);
    }

    // Promise 9: "OUTSIDE", "FULL": of both the first
    private static void outsideComesAheadOfFull() {
        PlugRounds x = forty();
        dueEach("9 unit(.., 0) of 40", OUTSIDE, name -> x.unit(name, 0), -1, 64, MIN, MAX);
        dueEach("9 unit(50, ..) of 40", OUTSIDE, marks -> x.unit(50, marks), -1, 256, MIN, MAX);
    }

    // Promise 9: "STATE: there is one of this NAME; FULL": of both the first
    private static void stateComesAheadOfFull() {
        PlugRounds x = forty();
        dueEach("9 unit(.., 0) of 40", STATE, name -> x.unit(name, 0), 0, 20, 39);
    }

    // Terms 2: "they are NEW as they come"
    private static void unitIsNewAsItComes() {
        PlugRounds x = new PlugRounds();
        x.unit(1, 0);
        due("9 NEW", x.mirror(0, 2), 1);
        due("9 one is NEW", x.about(3), 1);
        x.run(0);
        x.unit(2, 0);
        due("9 the old one stays old", x.mirror(0, 2), 0);
        due("9 the next is NEW", x.mirror(1, 2), 1);
    }

    // Promise 9: "STATE: there is one of this NAME": also if it was MADE
    private static void unitOfAMadeName() {
        PlugRounds x = with(0, MAKE, 30, 0, END, MAKE, 31, 0);
        x.unit(1, 1);
        x.run(9);
        due("9 MADE in a ROUND", x.unit(30, 0), STATE);
        due("9 MADE at the END", x.unit(31, 0), STATE);
        due("9 numbers go on behind them", x.unit(32, 0), 3);
    }

    // Terms 2: "MARKS, 8 bits (bit k: MARK k)": from MARK 0 to MARK 7
    private static void eachMarkIsABit() {
        for (int mark = 0; mark <= 7; mark++) {
            PlugRounds x = new PlugRounds();
            plug(x, 0, WRITE, 0, 0, 1, WRITE, 0, 1, 2, WRITE, 0, 2, 3, WRITE, 0, 3,
                4, WRITE, 0, 4, 5, WRITE, 0, 5, 6, WRITE, 0, 6, 7, WRITE, 0, 7);
            x.unit(9, 1 << mark);
            x.run(1);
            dueBytes("9 MARK " + mark, x, 0, mark);
            x.marks(0, 255 - (1 << mark));
            x.run(7);
            due("9 all but MARK " + mark, x.about(10), 8);
            for (int k = 1; k <= 7; k++) {
                due("9 the others in order", resource(x, 0, k), k <= mark ? k - 1 : k);
            }
        }
    }

    // Promise 10: "UNKNOWN"
    private static void marksKnowsUnits() {
        PlugRounds x = new PlugRounds();
        dueEach("10 marks(.., 1) of none", UNKNOWN, u -> x.marks(u, 1), -1, 0, 1, 39, 40, MIN, MAX);
        x.unit(8, 3);
        x.unit(9, 4);
        dueEach("10 marks(.., 1) of two", UNKNOWN, u -> x.marks(u, 1), -1, 2, 3, 8, 9, 39, 40, MIN, MAX);
        due("10 the first", x.marks(0, 5), 3);
        due("10 the last", x.marks(1, 5), 4);
        x.clear();
        due("10 none behind clear", x.marks(0, 5), UNKNOWN);
    }

    // Promise 10: "OUTSIDE"; Promise 9: "MARKS (0 .. 255)"
    private static void marksTakesEightBits() {
        PlugRounds x = new PlugRounds();
        x.unit(8, 3);
        x.run(0);
        dueEach("10 marks(0, ..)", OUTSIDE, marks -> x.marks(0, marks), -1, -256, 256, 257, 511, MIN, MAX);
        dueUnit(x, 0, 8, 3, 0, NONE, 0);
        due("10 0", x.marks(0, 0), 3);
        due("10 255", x.marks(0, 255), 0);
        due("10 they were 255", x.marks(0, 1), 255);
    }

    // Promise 10: "UNKNOWN; OUTSIDE": of both the first
    private static void marksUnknownComesAheadOfOutside() {
        PlugRounds x = new PlugRounds();
        x.unit(8, 3);
        for (int marks : new int[] {-1, 256, MIN, MAX}) {
            dueEach("10 marks(.., " + marks + ")", UNKNOWN, u -> x.marks(u, marks), -1, 1, MIN, MAX);
        }
    }

    // Promise 10: "what they were"
    private static void marksAnswersWhatWas() {
        PlugRounds x = new PlugRounds();
        x.unit(8, 255);
        x.unit(9, 1);
        due("10 first", x.marks(0, 128), 255);
        due("10 second", x.marks(0, 0), 128);
        due("10 third", x.marks(0, 0), 0);
        due("10 of the other", x.mirror(1, 1), 1);
        due("10 its NAME stays", x.mirror(0, 0), 8);
    }

    // Terms 2: "when their MARKS are told anew"; Promise 10: "which is NEW then": also if they are the same
    private static void marksMakeNew() {
        PlugRounds x = new PlugRounds();
        units(x, 0, 2, 6);
        x.run(0);
        due("10 none is NEW", x.about(3), 0);
        x.marks(1, 6);
        dueUnit(x, 1, 1, 6, 1, NONE, 0);
        due("10 it alone is NEW", x.about(3), 1);
        x.marks(1, 7);
        due("10 it is still NEW", x.mirror(1, 2), 1);
        due("10 no other is", x.about(3), 1);
    }

    // Promise 10: "MARKS of a UNIT": the last that there can be
    private static void marksOfTheLastOfForty() {
        PlugRounds x = forty();
        x.run(0);
        due("10 UNIT 39", x.marks(39, 77), 1);
        dueUnit(x, 39, 39, 77, 1, NONE, 0);
        due("10 UNIT 40", x.marks(40, 77), UNKNOWN);
        due("10 one is NEW", x.about(3), 1);
    }

    // Promise 11: "All UNITS are NEW: how many were not": none, if there are none
    private static void anewOfNone() {
        PlugRounds x = new PlugRounds();
        due("11 no UNITS", x.anew(), 0);
        due("11 none is NEW", x.about(3), 0);
        due("11 run of none", x.run(0), 0);
    }

    // Promise 11: "how many were not": 0, if all are NEW
    private static void anewOfAllNew() {
        PlugRounds x = new PlugRounds();
        units(x, 0, 4, 0);
        due("11 all are NEW", x.anew(), 0);
        due("11 they still are", x.about(3), 5);
    }

    // Promise 11: "how many were not": all
    private static void anewOfAllOld() {
        PlugRounds x = new PlugRounds();
        units(x, 0, 4, 0);
        x.run(0);
        due("11 none is NEW", x.anew(), 5);
        due("11 all are then", x.about(3), 5);
        due("11 and again", x.anew(), 0);
    }

    // Promise 11: "All UNITS are NEW: how many were not": some
    private static void anewOfSome() {
        PlugRounds x = new PlugRounds();
        units(x, 0, 4, 0);
        x.run(0);
        x.marks(0, 1);
        x.marks(4, 1);
        due("11 three were not", x.anew(), 3);
        for (int u = 0; u < 5; u++) {
            due("11 NEW " + u, x.mirror(u, 2), 1);
        }
    }

    // Promise 11: "All UNITS are NEW": 40 of them
    private static void anewOfForty() {
        PlugRounds x = forty();
        x.run(0);
        due("11 40 were not", x.anew(), 40);
        due("11 40 are", x.about(3), 40);
        due("11 UNIT 39", x.mirror(39, 2), 1);
    }

    // Promise 11: "All UNITS are NEW": NAME, MARKS, PROCESSOR and ROUND stay
    private static void anewChangesNothingElse() {
        PlugRounds x = with(0, MAKE, 9, 6);
        x.unit(8, 1);
        x.run(9);
        due("11 two", x.anew(), 2);
        dueUnit(x, 0, 8, 1, 1, NONE, 0);
        dueUnit(x, 1, 9, 6, 1, 0, 1);
    }

    // Promise 15: "UNKNOWN"
    private static void mirrorKnowsUnits() {
        PlugRounds x = new PlugRounds();
        dueEach("15 mirror(.., 0) of none", UNKNOWN, u -> x.mirror(u, 0), -1, 0, 1, 39, 40, MIN, MAX);
        x.unit(8, 3);
        due("15 the one", x.mirror(0, 0), 8);
        dueEach("15 mirror(.., 0) of one", UNKNOWN, u -> x.mirror(u, 0), -1, 1, 8, 39, 40, MIN, MAX);
        PlugRounds y = forty();
        due("15 UNIT 39", y.mirror(39, 0), 39);
        dueEach("15 mirror(.., 0) of 40", UNKNOWN, u -> y.mirror(u, 0), -1, 40, 41, MIN, MAX);
    }

    // Promise 15: "NAME (what = 0), MARKS (1), whether it is NEW (2), which PROCESSOR MADE it (3; NONE), in which ROUND
    // (4; 0)", "OUTSIDE"
    private static void mirrorTakesFiveKinds() {
        PlugRounds x = new PlugRounds();
        x.unit(8, 3);
        dueEach("15 mirror(0, ..)", OUTSIDE, what -> x.mirror(0, what), -1, 5, 6, 10, 256, MIN, MAX);
        due("15 mirror(0, 0)", x.mirror(0, 0), 8);
        due("15 mirror(0, 4)", x.mirror(0, 4), 0);
    }

    // Promise 15: "UNKNOWN; OUTSIDE": of both the first
    private static void mirrorUnknownComesAheadOfOutside() {
        PlugRounds x = new PlugRounds();
        x.unit(8, 3);
        for (int what : new int[] {-1, 5, MIN, MAX}) {
            dueEach("15 mirror(.., " + what + ")", UNKNOWN, u -> x.mirror(u, what), -1, 1, MIN, MAX);
        }
    }

    // Promise 15: "which PROCESSOR MADE it (3; NONE), in which ROUND (4; 0)": NONE and 0
    private static void mirrorOfOneThatWasNotMade() {
        PlugRounds x = with(0, TELL, 0, 0);
        x.unit(63, 255);
        dueUnit(x, 0, 63, 255, 1, NONE, 0);
        x.run(9);
        dueUnit(x, 0, 63, 255, 0, NONE, 0);
    }

    // Promise 15: "which PROCESSOR MADE it (3; NONE), in which ROUND (4; 0)": PROCESSOR 0 is not NONE, ROUND 1 not 0
    private static void mirrorOfOneThatWasMade() {
        PlugRounds x = with(0, MAKE, 0, 2, 1, MAKE, 63, 0);
        x.unit(9, 1);
        due("15 run", x.run(9), 3);
        dueUnit(x, 1, 0, 2, 0, 0, 1);
        dueUnit(x, 2, 63, 0, 0, 0, 2);
        x.marks(1, 0);
        x.run(9);
        dueUnit(x, 1, 0, 0, 0, 0, 1);
    }

    // Promise 15: "in which ROUND"; Terms 2: "ROUND (at the END one more than the last)"
    private static void mirrorOfOneThatWasMadeAtTheEnd() {
        PlugRounds x = with(END, MAKE, 0, 255);
        x.unit(9, 0);
        due("15 run", x.run(9), 1);
        dueUnit(x, 1, 0, 255, 1, 0, 2);
    }

    // Promise 15: "which PROCESSOR MADE it": from PROCESSOR 0 to PROCESSOR 5
    private static void mirrorOfFirstAndLastMaker() {
        PlugRounds x = new PlugRounds();
        for (int p = 0; p < 6; p++) {
            plug(x, 0, MAKE, 10 + p, 0);
        }
        x.unit(0, 1);
        due("15 run of six", x.run(6), 2);
        for (int p = 0; p < 6; p++) {
            dueUnit(x, 1 + p, 10 + p, 0, 0, p, 1);
        }
    }
}
