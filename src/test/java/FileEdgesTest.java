/** FILES, THE TAPE, the CLAUSES and START at their edges: Terms 1 and Promises 1 to 8. */
public final class FileEdgesTest extends Check {
    public static void main(String[] args) {
        newObject();
        feeding();
        laying();
        octets();
        planting();
        failing();
        judging();
        defining();
        end("FileEdgesTest");
    }

    private static void newObject() {
        newFilesAreEmpty();
        newTapeIsEmpty();
        newResourcesAreEmpty();
        newOptionsAreZero();
        newThrowDoesNotPass();
        nothingElseIsThere();
        objectsShareNothing();
    }

    private static void feeding() {
        feedTakesOneToEight();
        feedTakesTheLowestBytes();
        feedPutsTheHighestFirst();
        feedComesBehind();
        feedFillsTheTape();
        feedBeyondTheTapeIsFull();
        feedOutsideComesAheadOfFull();
    }

    private static void laying() {
        layKnowsSixFiles();
        layOfAnEmptyTape();
        layOfAFullTape();
        layReplacesAllBytes();
        layEmptiesTheTape();
        layEndsAFailingStart();
        layLeavesOtherFiles();
    }

    private static void octets() {
        octetHasASign();
        octetOfFirstAndLastByte();
        octetOfNoByteThrows();
        octetOfNoFileThrows();
    }

    private static void planting() {
        plantTakesMasksOfEightBits();
        plantAnswersWithoutSign();
        plantReachesFirstAndLastByte();
        plantKnowsFilesAndBytes();
        plantUnknownComesAheadOfOutside();
        plantIsNotLayingAnew();
    }

    private static void failing() {
        failsKnowsSixFiles();
        failsAnswersWhatWas();
        failsForgetsThatItFailed();
        failsIsOfOneFile();
    }

    private static void judging() {
        judgeKnowsSixFiles();
        clause1NeedsFourBytes();
        clause2NeedsItsTwoBytes();
        clause3NeedsOneToTwelve();
        clause4NeedsTheVeryLength();
        clause5Marks();
        clause5Acts();
        clause5OfMake();
        clause5OfWriteAndAsk();
        clause5OfTell();
        clause5OfOtherActs();
        clause5OfEachRule();
        clause6IsTheLowestBits();
        clause6CountsBytesWithoutSign();
        clause6LeavesOutTheLastByte();
        theFirstClauseIsTold();
        judgedAsItIsNow();
    }

    private static void defining() {
        defineKnowsSixFiles();
        defineTellsTheClause();
        defineNumbersProcessors();
        defineOfTheSeventhIsFull();
        fullComesBehindTheClause();
        fullComesAheadOfStart();
        startFailsOnceAndIsGoneThen();
        goneUntilLaidAnew();
        clauseComesAheadOfStart();
        definedWithRulesAsTheyAre();
        definedWithTwelveRules();
        cellIsZeroAtFirst();
    }

    // Promise 1: "Empty FILES, TAPE, RESOURCES" (here FILES); Terms 1: "up to 64 bytes (none at first)"
    private static void newFilesAreEmpty() {
        PlugRounds x = new PlugRounds();
        for (int f = 0; f <= 5; f++) {
            due("1 octet(" + f + ", 0)", octet(x, f, 0), AIOOBE);
            due("1 plant(" + f + ", 0, 0)", x.plant(f, 0, 0), UNKNOWN);
            due("1 judge(" + f + ")", x.judge(f), 1);
            due("1 fails(" + f + ")", x.fails(f, false), 0);
        }
    }

    // Promise 1: "Empty FILES, TAPE, RESOURCES" (here TAPE); Terms 1: "(none at first), so has THE TAPE"
    private static void newTapeIsEmpty() {
        due("1 lay of a new TAPE", new PlugRounds().lay(0), 0);
        due("1 feed of a new TAPE", new PlugRounds().feed(1, 5), 1);
    }

    // Promise 1: "Empty FILES, TAPE, RESOURCES" (here RESOURCES)
    private static void newResourcesAreEmpty() {
        PlugRounds x = new PlugRounds();
        for (int r = 0; r <= 3; r++) {
            dueBytes("1 new", x, r);
        }
    }

    // Promise 1: "OPTIONS are 0"
    private static void newOptionsAreZero() {
        PlugRounds x = new PlugRounds();
        for (int i = 0; i <= 3; i++) {
            due("1 option(" + i + ")", x.option(i, 1), 0);
        }
    }

    // Promise 1: "THROW does not PASS"
    private static void newThrowDoesNotPass() {
        due("1 pass of a new object", new PlugRounds().pass(false), 0);
        PlugRounds x = with(0, THROW, 0, 0);
        x.unit(0, 1);
        due("1 run of a new object", x.run(1), REFUSED);
    }

    // Promise 1: "A new object" has no UNITS, PROCESSORS, MESSAGES and has made no RUN
    private static void nothingElseIsThere() {
        PlugRounds x = new PlugRounds();
        for (int what = 0; what <= 6; what++) {
            due("1 about(" + what + ")", x.about(what), 0);
        }
        due("1 mirror(0, 0)", x.mirror(0, 0), UNKNOWN);
        due("1 message(0, 0)", x.message(0, 0), UNKNOWN);
        due("1 told(0, 0)", x.told(0, 0), UNKNOWN);
        due("1 cell(0)", cell(x, 0), NPE);
    }

    // Promise 1: "A new object" is as told whatever was done to another one
    private static void objectsShareNothing() {
        PlugRounds x = with(0, TELL, 0, 0, 0, WRITE, 0, 1);
        x.unit(0, 1);
        x.run(10);
        x.pass(true);
        x.option(0, 9);
        x.fails(5, true);
        x.feed(3, 1);
        newFilesAreEmpty();
        newTapeIsEmpty();
        newResourcesAreEmpty();
        newOptionsAreZero();
        newThrowDoesNotPass();
        nothingElseIsThere();
    }

    // Promise 2: "OUTSIDE: n is not 1 .. 8"
    private static void feedTakesOneToEight() {
        PlugRounds x = new PlugRounds();
        dueEach("2 feed", OUTSIDE, n -> x.feed(n, 7), 0, -1, -8, 9, 16, 64, 256, 257, 65537, MIN, MIN + 1, MAX);
        due("2 none of these fed", x.feed(1, 7), 1);
        for (int n = 1; n <= 8; n++) {
            due("2 feed(" + n + ")", new PlugRounds().feed(n, 7), n);
        }
    }

    // Promise 2: "The n lowest bytes of w"
    private static void feedTakesTheLowestBytes() {
        PlugRounds x = new PlugRounds();
        x.feed(1, Long.MIN_VALUE);
        x.feed(1, Long.MAX_VALUE);
        x.feed(1, -256L);
        x.feed(2, 0x1122334455660080L);
        x.feed(4, 0xFFFFFFFF00000001L);
        x.feed(5, 0x0000007F80000000L);
        x.lay(0);
        dueOctets("2 lowest", x, 0, 0, 255, 0, 0, 128, 0, 0, 0, 1, 127, 128, 0, 0, 0);
    }

    // Promise 2: "the highest of them first"
    private static void feedPutsTheHighestFirst() {
        for (int n = 1; n <= 8; n++) {
            PlugRounds x = new PlugRounds();
            x.feed(n, 0x8182838485868788L);
            due("2 lay of " + n, x.lay(0), n);
            int[] want = new int[n];
            for (int i = 0; i < n; i++) {
                want[i] = 0x88 - (n - 1 - i);
            }
            dueOctets("2 highest first", x, 0, want);
        }
    }

    // Promise 2: "come behind THE TAPE: how many it has"
    private static void feedComesBehind() {
        PlugRounds x = new PlugRounds();
        due("2 feed 2", x.feed(2, 0x0102), 2);
        due("2 feed 1", x.feed(1, 0x03), 3);
        due("2 feed 8", x.feed(8, 0x0405060708090A0BL), 11);
        x.lay(3);
        dueOctets("2 behind", x, 3, 1, 2, 3, 4, 5, 6, 7, 8, 9, 10, 11);
    }

    private static PlugRounds fedTo(int size) {
        PlugRounds x = new PlugRounds();
        for (int i = 0; i < size; i++) {
            x.feed(1, i);
        }
        return x;
    }

    // Terms 1: "have up to 64 bytes (none at first), so has THE TAPE": 64 are still taken
    private static void feedFillsTheTape() {
        for (int n = 1; n <= 8; n++) {
            PlugRounds x = fedTo(64 - n);
            due("2 feed(" + n + ") up to 64", x.feed(n, -1), 64);
            due("2 lay of 64", x.lay(0), 64);
            due("2 the last byte", octet(x, 0, 63), -1);
            due("2 the first of them", octet(x, 0, 64 - n), -1);
            due("2 the one ahead of them", octet(x, 0, 63 - n), 63 - n);
        }
    }

    // Promise 2: "FULL": a 65th byte is not taken, and then none of the n
    private static void feedBeyondTheTapeIsFull() {
        for (int n = 1; n <= 8; n++) {
            PlugRounds x = fedTo(65 - n);
            due("2 feed(" + n + ") up to 65", x.feed(n, -1), FULL);
            due("2 lay of what was", x.lay(0), 65 - n);
            due("2 the last byte", octet(x, 0, 64 - n), 64 - n);
            due("2 none behind it", octet(x, 0, 65 - n), AIOOBE);
        }
        PlugRounds x = fedTo(64);
        dueEach("2 feed of a full TAPE", FULL, n -> x.feed(n, -1), 1, 2, 3, 4, 5, 6, 7, 8);
        due("2 lay of the full TAPE", x.lay(0), 64);
    }

    // Promise 2: "OUTSIDE: n is not 1 .. 8; FULL": of both the first
    private static void feedOutsideComesAheadOfFull() {
        PlugRounds x = fedTo(64);
        dueEach("2 feed of a full TAPE", OUTSIDE, n -> x.feed(n, 0), 0, -1, 9, MIN, MAX);
    }

    // Promise 3: "UNKNOWN"; the document's beginning: "FILES 0 .." 5
    private static void layKnowsSixFiles() {
        PlugRounds x = new PlugRounds();
        x.feed(2, 0x0102);
        dueEach("3 lay", UNKNOWN, x::lay, -1, 6, 7, 256, MIN, MAX);
        due("3 the TAPE stays", x.feed(1, 3), 3);
        due("3 lay(0)", x.lay(0), 3);
        x.feed(1, 4);
        due("3 lay(5)", x.lay(5), 1);
        dueOctets("3 FILE 0", x, 0, 1, 2, 3);
        dueOctets("3 FILE 5", x, 5, 4);
    }

    // Promise 3: "A FILE becomes THE TAPE": also an empty one
    private static void layOfAnEmptyTape() {
        PlugRounds x = new PlugRounds();
        lay(x, 2, rules(0, TELL, 0, 0));
        due("3 lay of nothing", x.lay(2), 0);
        dueOctets("3 nothing", x, 2);
        due("3 judge of nothing", x.judge(2), 1);
    }

    // Promise 3: "how many bytes": the most is 64
    private static void layOfAFullTape() {
        PlugRounds x = fedTo(64);
        due("3 lay of 64", x.lay(4), 64);
        for (int i = 0; i < 64; i++) {
            due("3 octet(4, " + i + ")", octet(x, 4, i), i);
        }
        due("3 no byte 64", octet(x, 4, 64), AIOOBE);
    }

    // Promise 3: "A FILE becomes THE TAPE": nothing of what it was is left, be it longer or shorter
    private static void layReplacesAllBytes() {
        PlugRounds x = new PlugRounds();
        lay(x, 1, 1, 2, 3, 4, 5);
        due("3 a shorter one", lay(x, 1, 6, 7), 2);
        dueOctets("3 shorter", x, 1, 6, 7);
        due("3 a longer one", lay(x, 1, 8, 9, 10), 3);
        dueOctets("3 longer", x, 1, 8, 9, 10);
    }

    // Promise 3: "THE TAPE, which is empty then"
    private static void layEmptiesTheTape() {
        PlugRounds x = fedTo(64);
        x.lay(0);
        due("3 lay again", x.lay(1), 0);
        due("3 feed behind it", x.feed(8, 0), 8);
        due("3 FILE 0 has its bytes", octet(x, 0, 63), 63);
    }

    // Promise 3: "its START does not fail"
    private static void layEndsAFailingStart() {
        int[] sound = rules(0, TELL, 0, 0);
        PlugRounds x = new PlugRounds();
        x.fails(3, true);
        lay(x, 3, sound);
        due("3 define", x.define(3), 0);
        x.fails(3, true);
        lay(x, 3, sound);
        due("3 fails behind lay", x.fails(3, true), 0);
        due("3 FAILED", x.define(3), FAILED);
        lay(x, 3, sound);
        due("3 define behind FAILED and lay", x.define(3), 1);
    }

    // Promise 3: "A FILE becomes THE TAPE": no other one does, and its START is as it was
    private static void layLeavesOtherFiles() {
        PlugRounds x = new PlugRounds();
        for (int f = 0; f <= 5; f++) {
            lay(x, f, f, 100 + f);
            x.fails(f, true);
        }
        lay(x, 3, 9);
        for (int f = 0; f <= 5; f++) {
            if (f != 3) {
                dueOctets("3 other FILES", x, f, f, 100 + f);
                due("3 START of FILE " + f, x.fails(f, true), 1);
            }
        }
    }

    // Promise 4: "Byte i of a FILE, with sign"
    private static void octetHasASign() {
        PlugRounds x = new PlugRounds();
        lay(x, 0, 0, 1, 127, 128, 129, 255);
        int[] want = {0, 1, 127, -128, -127, -1};
        for (int i = 0; i < want.length; i++) {
            due("4 octet(0, " + i + ")", octet(x, 0, i), want[i]);
        }
    }

    // Promise 4: "Byte i": the first one is 0, the last one 63 at most
    private static void octetOfFirstAndLastByte() {
        PlugRounds x = fedTo(64);
        x.lay(5);
        due("4 octet(5, 0)", octet(x, 5, 0), 0);
        due("4 octet(5, 63)", octet(x, 5, 63), 63);
        dueEach("4 octet(5, ..)", AIOOBE, i -> octet(x, 5, i), -1, 64, 65, MIN, MAX);
    }

    // Promise 4: "ArrayIndexOutOfBoundsException: no such FILE (it comes first), byte" (here the byte)
    private static void octetOfNoByteThrows() {
        PlugRounds x = new PlugRounds();
        dueEach("4 octet(0, ..) of an empty FILE", AIOOBE, i -> octet(x, 0, i), -1, 0, 1, MIN, MAX);
        lay(x, 0, 7, 8);
        due("4 the last byte", octet(x, 0, 1), 8);
        dueEach("4 octet(0, ..) of two bytes", AIOOBE, i -> octet(x, 0, i), -1, 2, 3, 63, 64, 256, MIN, MAX);
    }

    // Promise 4: "ArrayIndexOutOfBoundsException: no such FILE (it comes first), byte" (here the FILE)
    private static void octetOfNoFileThrows() {
        PlugRounds x = new PlugRounds();
        for (int f = 0; f <= 5; f++) {
            lay(x, f, 9);
            due("4 octet(" + f + ", 0)", octet(x, f, 0), 9);
        }
        for (int i : new int[] {0, -1, 64, MAX}) {
            dueEach("4 octet(.., " + i + ")", AIOOBE, f -> octet(x, f, i), -1, 6, 7, MIN, MAX);
        }
    }

    // Promise 5: "a mask (0 .. 255)"; "OUTSIDE"
    private static void plantTakesMasksOfEightBits() {
        PlugRounds x = new PlugRounds();
        lay(x, 0, 0x5A);
        due("5 mask 0", x.plant(0, 0, 0), 0x5A);
        due("5 mask 255", x.plant(0, 0, 255), 0xA5);
        due("5 mask 1", x.plant(0, 0, 1), 0xA4);
        due("5 mask 128", x.plant(0, 0, 128), 0x24);
        dueEach("5 plant(0, 0, ..)", OUTSIDE, mask -> x.plant(0, 0, mask), -1, -255, -256, 256, 257, 511, MIN, MAX);
        dueOctets("5 behind refusals", x, 0, 0x24);
    }

    // Promise 5: "what it is then, 0 .. 255"
    private static void plantAnswersWithoutSign() {
        PlugRounds x = new PlugRounds();
        lay(x, 0, 127, 255);
        due("5 127 to 255", x.plant(0, 0, 128), 255);
        due("5 255 to 128", x.plant(0, 0, 127), 128);
        due("5 octet has the sign", octet(x, 0, 0), -128);
        due("5 255 to 0", x.plant(0, 1, 255), 0);
        due("5 0 to 255", x.plant(0, 1, 255), 255);
    }

    // Promise 5: "Byte i of a FILE is xored": the first and the last one, and no other
    private static void plantReachesFirstAndLastByte() {
        PlugRounds x = fedTo(64);
        x.lay(5);
        lay(x, 4, 0, 0);
        due("5 the first", x.plant(5, 0, 64), 64);
        due("5 the last", x.plant(5, 63, 64), 127);
        int[] want = new int[64];
        for (int i = 0; i < want.length; i++) {
            want[i] = i == 0 || i == 63 ? i + 64 : i;
        }
        dueOctets("5 no other byte", x, 5, want);
        dueOctets("5 no other FILE", x, 4, 0, 0);
        x.feed(1, 3);
        due("5 plant of a FILE", x.plant(4, 1, 9), 9);
        due("5 and not of the TAPE", x.lay(3), 1);
        dueOctets("5 the TAPE's byte", x, 3, 3);
    }

    // Promise 5: "UNKNOWN (file, i)"
    private static void plantKnowsFilesAndBytes() {
        PlugRounds x = new PlugRounds();
        lay(x, 0, 7, 8);
        lay(x, 5, 9);
        due("5 plant(0, 1, 0)", x.plant(0, 1, 0), 8);
        due("5 plant(5, 0, 0)", x.plant(5, 0, 0), 9);
        dueEach("5 plant(.., 0, 1)", UNKNOWN, f -> x.plant(f, 0, 1), -1, 6, 7, MIN, MAX);
        dueEach("5 plant(0, .., 1)", UNKNOWN, i -> x.plant(0, i, 1), -1, 2, 3, 63, 64, MIN, MAX);
        dueEach("5 plant(1, .., 1) of an empty FILE", UNKNOWN, i -> x.plant(1, i, 1), -1, 0, 1, MIN, MAX);
        dueOctets("5 behind refusals", x, 0, 7, 8);
        dueOctets("5 no byte came", x, 1);
    }

    // Promise 5: "UNKNOWN (file, i); OUTSIDE": of both the first
    private static void plantUnknownComesAheadOfOutside() {
        PlugRounds x = new PlugRounds();
        lay(x, 0, 7);
        for (int mask : new int[] {-1, 256, MIN, MAX}) {
            due("5 plant(6, 0, " + mask + ")", x.plant(6, 0, mask), UNKNOWN);
            due("5 plant(-1, 0, " + mask + ")", x.plant(-1, 0, mask), UNKNOWN);
            due("5 plant(0, 1, " + mask + ")", x.plant(0, 1, mask), UNKNOWN);
            due("5 plant(0, -1, " + mask + ")", x.plant(0, -1, mask), UNKNOWN);
        }
    }

    // Terms 1: "GONE each time behind that, until it is laid anew": plant does not lay it anew
    private static void plantIsNotLayingAnew() {
        PlugRounds x = new PlugRounds();
        lay(x, 0, rules(0, TELL, 0, 0));
        x.fails(0, true);
        x.plant(0, 3, 0);
        due("5 START still fails", x.define(0), FAILED);
        x.plant(0, 3, 1);
        x.plant(0, 3, 1);
        due("5 it is still GONE", x.define(0), GONE);
    }

    // Promise 6: "UNKNOWN"
    private static void failsKnowsSixFiles() {
        PlugRounds x = new PlugRounds();
        for (boolean does : new boolean[] {false, true}) {
            dueEach("6 fails(.., " + does + ")", UNKNOWN, f -> x.fails(f, does), -1, 6, 7, MIN, MAX);
        }
        dueEach("6 fails(.., true)", 0, f -> x.fails(f, true), 0, 1, 2, 3, 4, 5);
    }

    // Promise 6: "Whether the START of a FILE fails becomes so", "1 if it did"
    private static void failsAnswersWhatWas() {
        PlugRounds x = new PlugRounds();
        due("6 no to no", x.fails(5, false), 0);
        due("6 no to yes", x.fails(5, true), 0);
        due("6 yes to yes", x.fails(5, true), 1);
        due("6 yes to no", x.fails(5, false), 1);
        due("6 it is no", x.fails(5, false), 0);
    }

    // Promise 6: "(it is as if it had not FAILED yet)"
    private static void failsForgetsThatItFailed() {
        PlugRounds x = new PlugRounds();
        lay(x, 1, rules(0, TELL, 0, 0));
        x.fails(1, true);
        due("6 FAILED", x.define(1), FAILED);
        due("6 it did fail", x.fails(1, true), 1);
        due("6 FAILED behind fails(true)", x.define(1), FAILED);
        due("6 GONE", x.define(1), GONE);
        due("6 it did fail, GONE as it is", x.fails(1, false), 1);
        due("6 DEFINED behind fails(false)", x.define(1), 0);
        due("6 it did not", x.fails(1, true), 0);
        due("6 FAILED behind both", x.define(1), FAILED);
    }

    // Promise 6: "the START of a FILE": of no other one
    private static void failsIsOfOneFile() {
        PlugRounds x = new PlugRounds();
        lay(x, 1, rules(0, TELL, 0, 0));
        lay(x, 2, rules(0, TELL, 0, 0));
        x.fails(1, true);
        x.fails(2, true);
        due("6 FILE 1 FAILED", x.define(1), FAILED);
        due("6 FILE 2 FAILED for itself", x.define(2), FAILED);
        x.fails(2, false);
        due("6 FILE 1 is GONE", x.define(1), GONE);
        due("6 FILE 2 is DEFINED", x.define(2), 0);
    }

    private static int judged(int... bytes) {
        PlugRounds x = new PlugRounds();
        lay(x, 0, bytes);
        return x.judge(0);
    }

    private static int judgedRule(int mark, int act, int a, int b) {
        return judged(rules(mark, act, a, b));
    }

    // Promise 7: "UNKNOWN"
    private static void judgeKnowsSixFiles() {
        PlugRounds x = new PlugRounds();
        dueEach("7 judge", UNKNOWN, x::judge, -1, 6, 7, MIN, MAX);
        for (int f = 0; f <= 5; f++) {
            due("7 judge of an empty FILE", x.judge(f), 1);
            lay(x, f, rules(0, TELL, 0, 0));
            due("7 judge(" + f + ")", x.judge(f), 0);
        }
    }

    // Terms 1: "1 it has 4 bytes at least"
    private static void clause1NeedsFourBytes() {
        due("7 no byte", judged(), 1);
        due("7 one byte", judged(80), 1);
        due("7 two bytes", judged(80, 82), 1);
        due("7 three bytes", judged(80, 82, 1), 1);
        due("7 four bytes", judged(80, 82, 1, 0), 4);
    }

    // Terms 1: "2 it begins with 80, 82"
    private static void clause2NeedsItsTwoBytes() {
        for (int v = 0; v < 256; v++) {
            due("7 begins with " + v + ", 82", judged(v, 82, 1, 0), v == 80 ? 4 : 2);
            due("7 begins with 80, " + v, judged(80, v, 1, 0), v == 82 ? 4 : 2);
        }
    }

    // Terms 1: "3 its third byte n is 1 .. 12"
    private static void clause3NeedsOneToTwelve() {
        for (int n = 0; n < 256; n++) {
            due("7 third byte " + n, judged(80, 82, n, 0), n >= 1 && n <= 12 ? 4 : 3);
        }
        due("7 none, with the length and sum of none", judged(80, 82, 0, 162), 3);
        due("7 13, with their length and sum", judged(rules(times(13, 0, TELL, 0, 0))), 3);
    }

    // Terms 1: "4 it has 4 n and 4 bytes"
    private static void clause4NeedsTheVeryLength() {
        for (int n = 1; n <= 12; n++) {
            int[] sound = rules(times(n, 0, TELL, 0, 0));
            due("7 " + n + " RULES", judged(sound), 0);
            due("7 " + n + " RULES and a byte", judged(join(sound, 0)), 4);
            due("7 " + n + " RULES less a byte", judged(java.util.Arrays.copyOf(sound, sound.length - 1)), 4);
            sound[2] = n == 12 ? 11 : n + 1;
            due("7 a RULE more or less than told", judged(summed(sound)), 4);
        }
        int[] most = new int[64];
        System.arraycopy(rules(times(12, 0, TELL, 0, 0)), 0, most, 0, 52);
        due("7 64 bytes", judged(most), 4);
    }

    // Terms 1: "MARK is 0 .. 7 or 15 (END)"
    private static void clause5Marks() {
        for (int mark = 0; mark < 256; mark++) {
            due("7 MARK " + mark, judgedRule(mark, TELL, 0, 0), mark <= 7 || mark == 15 ? 0 : 5);
        }
    }

    // Terms 1: "ACT 0 .. 9"
    private static void clause5Acts() {
        for (int act = 0; act < 256; act++) {
            due("7 ACT " + act, judgedRule(0, act, 0, 0), act <= 9 ? 0 : 5);
        }
    }

    // Terms 1: "a of MAKE 0 .. 63"
    private static void clause5OfMake() {
        for (int v = 0; v < 256; v++) {
            due("7 a of MAKE " + v, judgedRule(0, MAKE, v, 0), v <= 63 ? 0 : 5);
            due("7 b of MAKE " + v, judgedRule(0, MAKE, 63, v), 0);
        }
    }

    // Terms 1: "of WRITE and ASK 0 .. 3"
    private static void clause5OfWriteAndAsk() {
        for (int v = 0; v < 256; v++) {
            due("7 a of WRITE " + v, judgedRule(0, WRITE, v, 0), v <= 3 ? 0 : 5);
            due("7 b of WRITE " + v, judgedRule(0, WRITE, 3, v), 0);
            due("7 a of ASK " + v, judgedRule(0, ASK, v, 0), v <= 3 ? 0 : 5);
            due("7 b of ASK " + v, judgedRule(0, ASK, 3, v), 0);
        }
    }

    // Terms 1: "b of TELL 0 .. 2"
    private static void clause5OfTell() {
        for (int v = 0; v < 256; v++) {
            due("7 b of TELL " + v, judgedRule(0, TELL, 0, v), v <= 2 ? 0 : 5);
            due("7 a of TELL " + v, judgedRule(0, TELL, v, 2), 0);
        }
    }

    // Terms 1: "5 each RULE": nothing is told of a and b of the other ACTS, so 0 .. 255 are taken
    private static void clause5OfOtherActs() {
        for (int act : new int[] {CLAIM, ADD, THROW, WORK, CHANGE, SKIP}) {
            for (int v = 0; v < 256; v++) {
                due("7 a of ACT " + act + " " + v, judgedRule(0, act, v, 255), 0);
                due("7 b of ACT " + act + " " + v, judgedRule(END, act, 255, v), 0);
            }
        }
    }

    // Terms 1: "5 each RULE, four bytes from the fourth one on: MARK, ACT, a, b": also the last of them
    private static void clause5OfEachRule() {
        int[][] wrong = {{8, TELL, 0, 0}, {0, 10, 0, 0}, {0, MAKE, 64, 0}, {0, WRITE, 4, 0}, {0, ASK, 4, 0}, {0, TELL, 0, 3}};
        for (int n : new int[] {1, 2, 12}) {
            for (int r = 0; r < n; r++) {
                for (int[] rule : wrong) {
                    int[] parts = times(n, 0, TELL, 0, 0);
                    System.arraycopy(rule, 0, parts, 4 * r, 4);
                    due("7 RULE " + r + " of " + n, judged(rules(parts)), 5);
                }
            }
        }
    }

    // Terms 1: "6 its last byte are the 8 lowest bits of the sum of all ahead of it"
    private static void clause6IsTheLowestBits() {
        // 80, 82, 1, 0, 0, a, b and their sum, on both sides of 256 and 512
        for (int[] ab : new int[][] {{0, 0}, {92, 0}, {93, 0}, {94, 0}, {255, 93}, {255, 94}, {255, 95}, {255, 255}}) {
            int sum = 163 + ab[0] + ab[1];
            for (int last = 0; last < 256; last++) {
                int clause = judged(80, 82, 1, 0, 0, ab[0], ab[1], last);
                due("7 sum " + sum + ", last byte " + last, clause, last == sum % 256 ? 0 : 6);
            }
        }
    }

    // Terms 1: "(Bytes are 0 .. 255.)": in the sum, too
    private static void clause6CountsBytesWithoutSign() {
        int[] many = rules(times(12, 7, SKIP, 255, 255));
        due("7 the sum of large bytes", many[51], (80 + 82 + 12 + 12 * (7 + 8 + 255 + 255)) % 256);
        due("7 large bytes", judged(many), 0);
        many[51] = (many[51] + 1) % 256;
        due("7 one more", judged(many), 6);
        many[51] = (many[51] + 254) % 256;
        due("7 one less", judged(many), 6);
    }

    // Terms 1: "the sum of all ahead of it": all of them, and not of itself
    private static void clause6LeavesOutTheLastByte() {
        int[] sound = rules(0, ADD, 1, 1, 1, SKIP, 2, 2);
        due("7 the right sum", judged(sound), 0);
        for (int i : new int[] {5, 6, 9, 10}) {
            sound[i]++;
            due("7 byte " + i + " counts", judged(sound), 6);
            sound[i]--;
        }
        sound[11] = sound[11] * 2 & 255;
        due("7 the last byte does not", judged(sound), 6);
    }

    // Terms 1: "breaks a CLAUSE, the first of these"
    private static void theFirstClauseIsTold() {
        due("7 1 and 2", judged(1, 2, 13), 1);
        due("7 2, 3, 4 and 6", judged(1, 2, 13, 0), 2);
        due("7 3, 4 and 6", judged(80, 82, 13, 0), 3);
        due("7 3 and 6", judged(80, 82, 0, 0), 3);
        due("7 4, 5 and 6", judged(80, 82, 2, 8, 10, 0, 0, 0), 4);
        due("7 5 and 6", judged(80, 82, 1, 8, 10, 0, 0, 0), 5);
        due("7 6", judged(80, 82, 1, 7, 9, 0, 0, 0), 6);
    }

    // Promise 7: "0: a FILE is SOUND; else the CLAUSE": of the bytes that it has now
    private static void judgedAsItIsNow() {
        PlugRounds x = new PlugRounds();
        lay(x, 0, rules(0, TELL, 0, 0));
        int[] clause = {2, 2, 3, 6, 5, 6, 6, 6};
        for (int i = 0; i < clause.length; i++) {
            x.plant(0, i, i == 2 ? 16 : i == 4 ? 32 : 1);
            due("7 byte " + i + " is other", x.judge(0), clause[i]);
            x.plant(0, i, i == 2 ? 16 : i == 4 ? 32 : 1);
            due("7 byte " + i + " is back", x.judge(0), 0);
        }
    }

    // Promise 8: "UNKNOWN"
    private static void defineKnowsSixFiles() {
        PlugRounds x = new PlugRounds();
        dueEach("8 define", UNKNOWN, x::define, -1, 6, 7, MIN, MAX);
        for (int f = 0; f <= 5; f++) {
            lay(x, f, rules(0, TELL, 0, 0));
            due("8 define(" + f + ")", x.define(f), f);
            due("8 its FILE", x.told(f, 0), f);
        }
        dueEach("8 define, when there are 6", UNKNOWN, x::define, -1, 6, MIN, MAX);
    }

    // Promise 8: "-10 less the CLAUSE"
    private static void defineTellsTheClause() {
        PlugRounds x = new PlugRounds();
        int[][] files = {{}, {80, 83, 1, 0}, {80, 82, 13, 0}, {80, 82, 1, 0}, {80, 82, 1, 8, 0, 0, 0, 171}, {80, 82, 1, 0, 0, 0, 0, 0}};
        for (int k = 0; k < files.length; k++) {
            lay(x, k, files[k]);
            due("8 define of CLAUSE " + (k + 1), x.define(k), -11 - k);
        }
        due("8 none is DEFINED", x.about(1), 0);
    }

    // Promise 8: "A FILE is DEFINED: the PROCESSOR's number"; Terms 1: "PROCESSORS, 6 at most": the sixth is taken
    private static void defineNumbersProcessors() {
        PlugRounds x = new PlugRounds();
        lay(x, 3, rules(0, TELL, 0, 0));
        for (int p = 0; p <= 5; p++) {
            due("8 about(1)", x.about(1), p);
            due("8 define", x.define(3), p);
            due("8 told", x.told(p, 0), 3);
        }
        due("8 about(1) of all", x.about(1), 6);
    }

    // Promise 8: "FULL"; Terms 1: "PROCESSORS, 6 at most": the seventh is not taken
    private static void defineOfTheSeventhIsFull() {
        PlugRounds x = sixOf(3);
        due("8 the seventh", x.define(3), FULL);
        due("8 there are 6", x.about(1), 6);
        due("8 no told(6, 0)", x.told(6, 0), UNKNOWN);
        x.clear();
        due("8 room behind clear", x.define(3), 0);
    }

    private static PlugRounds sixOf(int file) {
        PlugRounds x = new PlugRounds();
        lay(x, file, rules(0, TELL, 0, 0));
        for (int p = 0; p < 6; p++) {
            x.define(file);
        }
        return x;
    }

    // Promise 8: "FULL (behind the CLAUSE"
    private static void fullComesBehindTheClause() {
        PlugRounds x = sixOf(3);
        due("8 CLAUSE 1 when FULL", x.define(0), -11);
        x.plant(3, 7, 1);
        due("8 CLAUSE 6 when FULL", x.define(3), -16);
        x.plant(3, 7, 1);
        due("8 FULL when SOUND", x.define(3), FULL);
    }

    // Promise 8: "ahead of its START)": a FULL one has not FAILED
    private static void fullComesAheadOfStart() {
        PlugRounds x = sixOf(3);
        x.fails(3, true);
        due("8 FULL, not FAILED", x.define(3), FULL);
        due("8 FULL, not GONE", x.define(3), FULL);
        x.clear();
        due("8 FAILED the first time now", x.define(3), FAILED);
        for (int p = 0; p < 6; p++) {
            lay(x, 0, rules(0, TELL, 0, 0));
            x.define(0);
        }
        due("8 FULL ahead of GONE", x.define(3), FULL);
    }

    // Terms 1: "then it can not be DEFINED: FAILED the first time, GONE each time behind that"; Promise 8: "-31 FAILED,
    // -32 GONE"
    private static void startFailsOnceAndIsGoneThen() {
        PlugRounds x = new PlugRounds();
        lay(x, 0, rules(0, TELL, 0, 0));
        x.fails(0, true);
        due("8 the first time", x.define(0), -31);
        due("8 the second time", x.define(0), -32);
        due("8 the third time", x.define(0), -32);
        due("8 no PROCESSOR came of it", x.about(1), 0);
        due("8 it is SOUND, though", x.judge(0), 0);
        x.clear();
        due("8 GONE behind clear", x.define(0), -32);
    }

    // Terms 1: "GONE each time behind that, until it is laid anew"
    private static void goneUntilLaidAnew() {
        PlugRounds x = new PlugRounds();
        int[] sound = rules(0, TELL, 0, 0);
        lay(x, 0, sound);
        x.fails(0, true);
        x.define(0);
        lay(x, 1, sound);
        due("8 another FILE that is laid", x.define(0), GONE);
        lay(x, 0, sound);
        due("8 laid anew", x.define(0), 0);
        x.fails(0, true);
        due("8 FAILED anew", x.define(0), FAILED);
    }

    // Promise 8: "-10 less the CLAUSE; -31 FAILED, -32 GONE": what breaks a CLAUSE is not started
    private static void clauseComesAheadOfStart() {
        PlugRounds x = new PlugRounds();
        lay(x, 0, rules(0, TELL, 0, 0));
        x.fails(0, true);
        x.plant(0, 7, 1);
        due("8 CLAUSE 6, not FAILED", x.define(0), -16);
        x.plant(0, 7, 1);
        due("8 FAILED the first time now", x.define(0), FAILED);
        x.plant(0, 0, 1);
        due("8 CLAUSE 2, not GONE", x.define(0), -12);
        x.plant(0, 0, 1);
        due("8 GONE", x.define(0), GONE);
    }

    // Terms 1: "with their RULES as they are then"
    private static void definedWithRulesAsTheyAre() {
        PlugRounds x = new PlugRounds();
        lay(x, 0, rules(0, WRITE, 0, 11, 0, WRITE, 0, 12));
        x.define(0);
        x.plant(0, 6, 7);
        x.unit(0, 1);
        x.run(10);
        dueBytes("8 planted behind it", x, 0, 11, 12);
        lay(x, 0, rules(0, WRITE, 0, 13));
        due("8 RULES as they were", x.told(0, 1), 2);
        x.anew();
        x.run(10);
        dueBytes("8 laid behind it", x, 0, 11, 12, 11, 12);
        x.define(0);
        x.anew();
        x.run(10);
        dueBytes("8 the next one has the new RULES", x, 0, 11, 12, 11, 12, 11, 12, 13);
        x.fails(0, true);
        x.define(0);
        x.anew();
        due("8 a START that fails later stops none", x.run(10), 1);
        due("8 bytes of both", x.about(10), 10);
    }

    // Terms 1: "3 its third byte n is 1 .. 12": all 12 RULES are DEFINED, and 1 alone of 1
    private static void definedWithTwelveRules() {
        int[] parts = times(12, 0, WRITE, 1, 0);
        for (int r = 0; r < 12; r++) {
            parts[4 * r + 3] = 100 + r;
        }
        PlugRounds x = with(parts);
        due("8 RULES of 12", x.told(0, 1), 12);
        x.unit(0, 1);
        due("8 run of 12", x.run(12), 1);
        dueBytes("8 all 12", x, 1, 100, 101, 102, 103, 104, 105, 106, 107, 108, 109, 110, 111);
        x.clear();
        plug(x, 0, WRITE, 1, 7);
        due("8 RULES of 1", x.told(0, 1), 1);
        x.unit(0, 1);
        due("8 run of 1", x.run(1), 1);
        dueBytes("8 one alone", x, 1, 7);
    }

    // Terms 1: "a CELL (an int, wrapping), 0 at first": also where one with another CELL was
    private static void cellIsZeroAtFirst() {
        PlugRounds x = with(0, ADD, 9, 0);
        due("8 cell of a new one", cell(x, 0), 0);
        x.unit(0, 1);
        x.run(5);
        due("8 cell behind ADD", cell(x, 0), 9);
        x.define(5);
        due("8 cell of the next", cell(x, 1), 0);
        x.clear();
        x.define(5);
        due("8 cell behind clear", cell(x, 0), 0);
    }
}
