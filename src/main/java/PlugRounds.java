/** Processors that are plugged in as files of bytes and run in rounds over the units that are new. */
public final class PlugRounds {
    public static final int NONE = -1, UNKNOWN = -101, OUTSIDE = -102, STATE = -103, FULL = -104;

    private static final int FILES = 6;
    private static final int FILE_BYTES = 64;
    private static final int FEED_BYTES = 8;
    private static final int PROCESSORS = 6;
    private static final int UNITS = 40;
    private static final int NAMES = 64;
    private static final int MARK_SETS = 256;
    private static final int MARKS = 8;
    private static final int MESSAGES = 120;
    private static final int RESOURCES = 4;
    private static final int RESOURCE_BYTES = 100;
    private static final int OPTIONS = 4;
    private static final int MOST_STEPS = 100000;
    private static final int ASPECTS_OF_UNIT = 5;
    private static final int ASPECTS_OF_MESSAGE = 5;
    private static final int ASPECTS_OF_PROCESSOR = 4;

    private static final int BYTE = 255;
    private static final int HIGHEST_POSITIVE = 127;
    private static final int FIRST_BYTE = 80;
    private static final int SECOND_BYTE = 82;
    private static final int HEAD_BYTES = 3;
    private static final int RULE_BYTES = 4;
    private static final int MOST_RULES = 12;
    private static final int END_MARK = 15;

    private static final int CLAIM = 0, MAKE = 1, TELL = 2, ADD = 3, THROW = 4;
    private static final int WORK = 5, CHANGE = 6, WRITE = 7, SKIP = 8, ASK = 9;

    private static final int TELLABLE = 3;
    private static final int NAME_IS_TAKEN = 3, NO_ROOM = 4, THREW = 5, MAY_NOT_CHANGE = 6, MADE_AT_END = 7;

    private static final int CLAUSE_BROKEN = -10, FAILED = -31, GONE = -32;
    private static final int GOING = 0, SPENT = -11, REFUSED = -12;

    private final Row tape;
    private final PlugFile[] files;
    private final Runner runner;
    private final int[] options;
    private final Processors processors;
    private final Units units;
    private final Messages messages;
    private final Resources resources;
    private boolean passes;

    public PlugRounds() {
        tape = new Row(FILE_BYTES);
        files = new PlugFile[FILES];
        for (int i = 0; i < files.length; i++) {
            files[i] = new PlugFile();
        }
        runner = new Runner();
        options = runner.options;
        processors = runner.processors;
        units = runner.units;
        messages = runner.messages;
        resources = runner.resources;
    }

    public int feed(int n, long w) {
        if (n < 1 || n > FEED_BYTES) {
            return OUTSIDE;
        }
        if (n > tape.room()) {
            return FULL;
        }
        for (int k = n - 1; k >= 0; k--) {
            tape.append((int) (w >>> (8 * k)) & BYTE);
        }
        return tape.size();
    }

    public int lay(int file) {
        PlugFile it = fileAt(file);
        if (it == null) {
            return UNKNOWN;
        }
        it.row.become(tape);
        it.startBecomes(false);
        tape.empty();
        return it.row.size();
    }

    public byte octet(int file, int i) throws ArrayIndexOutOfBoundsException {
        PlugFile it = fileAt(file);
        if (it == null) {
            throw new ArrayIndexOutOfBoundsException("no such FILE");
        }
        if (!it.row.has(i)) {
            throw new ArrayIndexOutOfBoundsException("no such byte");
        }
        return (byte) it.row.at(i);
    }

    public int plant(int file, int i, int mask) {
        PlugFile it = fileAt(file);
        if (it == null || !it.row.has(i)) {
            return UNKNOWN;
        }
        if (mask < 0 || mask > BYTE) {
            return OUTSIDE;
        }
        it.row.put(i, it.row.at(i) ^ mask);
        return it.row.at(i);
    }

    public int fails(int file, boolean does) {
        PlugFile it = fileAt(file);
        if (it == null) {
            return UNKNOWN;
        }
        int before = oneIf(it.startFails);
        it.startBecomes(does);
        return before;
    }

    public int judge(int file) {
        PlugFile it = fileAt(file);
        return it == null ? UNKNOWN : Clauses.firstBroken(it.row);
    }

    public int define(int file) {
        PlugFile it = fileAt(file);
        if (it == null) {
            return UNKNOWN;
        }
        int clause = Clauses.firstBroken(it.row);
        if (clause != 0) {
            return CLAUSE_BROKEN - clause;
        }
        if (processors.isFull()) {
            return FULL;
        }
        if (it.startFails) {
            return it.failToStart();
        }
        return processors.enlist(file, it.row);
    }

    public int unit(int name, int marks) {
        if (name < 0 || name >= NAMES || !areMarks(marks)) {
            return OUTSIDE;
        }
        if (units.bears(name)) {
            return STATE;
        }
        if (units.isFull()) {
            return FULL;
        }
        return units.enter(name, marks, NONE, 0);
    }

    public int marks(int unit, int marks) {
        if (!units.has(unit)) {
            return UNKNOWN;
        }
        if (!areMarks(marks)) {
            return OUTSIDE;
        }
        int before = units.marksOf(unit);
        units.retell(unit, marks);
        return before;
    }

    public int anew() {
        int old = units.size() - units.countNew();
        units.makeAllNew();
        return old;
    }

    public int option(int i, int v) {
        if (i < 0 || i >= options.length) {
            return OUTSIDE;
        }
        int before = options[i];
        options[i] = v;
        return before;
    }

    public int pass(boolean does) {
        int before = oneIf(passes);
        passes = does;
        return before;
    }

    public int run(int n) {
        if (n < 0 || n > MOST_STEPS) {
            return OUTSIDE;
        }
        return runner.go(n, passes);
    }

    public int mirror(int unit, int what) {
        if (!units.has(unit)) {
            return UNKNOWN;
        }
        if (what < 0 || what >= ASPECTS_OF_UNIT) {
            return OUTSIDE;
        }
        return units.aspect(unit, what);
    }

    public int message(int i, int what) {
        if (!messages.has(i)) {
            return UNKNOWN;
        }
        if (what < 0 || what >= ASPECTS_OF_MESSAGE) {
            return OUTSIDE;
        }
        return messages.aspect(i, what);
    }

    public int told(int processor, int what) {
        Processor it = processors.at(processor);
        if (it == null) {
            return UNKNOWN;
        }
        if (what < 0 || what >= ASPECTS_OF_PROCESSOR) {
            return OUTSIDE;
        }
        return it.aspect(what);
    }

    public int cell(int processor) throws ArrayIndexOutOfBoundsException, NullPointerException {
        if (processor < 0 || processor >= PROCESSORS) {
            throw new ArrayIndexOutOfBoundsException("not 0 .. 5");
        }
        Processor it = processors.at(processor);
        if (it == null) {
            throw new NullPointerException("no such PROCESSOR");
        }
        return it.value;
    }

    public int resource(int r, int i) throws ArrayIndexOutOfBoundsException {
        Row it = resources.at(r);
        if (it == null) {
            throw new ArrayIndexOutOfBoundsException("no such RESOURCE");
        }
        if (!it.has(i)) {
            throw new ArrayIndexOutOfBoundsException("no such byte");
        }
        return it.at(i);
    }

    public int about(int what) {
        switch (what) {
            case 0:
                return units.size();
            case 1:
                return processors.size();
            case 2:
                return messages.size();
            case 3:
                return units.countNew();
            case 4:
                return runner.steps;
            case 5:
                return runner.rounds;
            case 6:
                return runner.made;
            default:
                return bytesOfResource(what - 10);
        }
    }

    public int clear() {
        int before = units.size();
        units.cutTo(0);
        processors.dismissAll();
        messages.forgetAll();
        resources.emptyAll();
        return before;
    }

    private PlugFile fileAt(int file) {
        return file >= 0 && file < files.length ? files[file] : null;
    }

    private int bytesOfResource(int r) {
        Row it = resources.at(r);
        return it == null ? OUTSIDE : it.size();
    }

    private static boolean areMarks(int marks) {
        return marks >= 0 && marks < MARK_SETS;
    }

    private static int oneIf(boolean so) {
        return so ? 1 : 0;
    }

    /** Bytes, each 0 .. 255, up to a limit. */
    private static final class Row {
        private final int[] bytes;
        private int length;
        private int kept;

        Row(int limit) {
            bytes = new int[Math.max(limit, 0)];
        }

        int size() {
            return length;
        }

        int room() {
            return bytes.length - length;
        }

        boolean has(int i) {
            return i >= 0 && i < length;
        }

        int at(int i) {
            return i >= 0 && i < length ? bytes[i] : 0;
        }

        void put(int i, int value) {
            if (i >= 0 && i < length) {
                bytes[i] = value & BYTE;
            }
        }

        boolean append(int value) {
            if (length >= bytes.length) {
                return false;
            }
            bytes[length] = value & BYTE;
            length++;
            return true;
        }

        void empty() {
            length = 0;
        }

        void become(Row other) {
            empty();
            for (int i = 0; i < other.size(); i++) {
                append(other.at(i));
            }
        }

        /** A length is enough to come back to, as a RUN only appends. */
        void keep() {
            kept = length;
        }

        void goBack() {
            length = Math.min(kept, length);
        }
    }

    /** A FILE and what is known of its START. */
    private static final class PlugFile {
        private final Row row;
        private boolean startFails;
        private boolean hasFailed;

        PlugFile() {
            row = new Row(FILE_BYTES);
        }

        void startBecomes(boolean failing) {
            startFails = failing;
            hasFailed = false;
        }

        int failToStart() {
            int answer = hasFailed ? GONE : FAILED;
            hasFailed = true;
            return answer;
        }
    }

    /** The CLAUSES that a SOUND FILE keeps. */
    private static final class Clauses {
        static int firstBroken(Row row) {
            if (row.size() < HEAD_BYTES + 1) {
                return 1;
            }
            if (row.at(0) != FIRST_BYTE || row.at(1) != SECOND_BYTE) {
                return 2;
            }
            int rules = row.at(2);
            if (rules < 1 || rules > MOST_RULES) {
                return 3;
            }
            if (row.size() != HEAD_BYTES + RULE_BYTES * rules + 1) {
                return 4;
            }
            if (!areSoundRules(row, rules)) {
                return 5;
            }
            return row.at(row.size() - 1) == sumAheadOfLast(row) ? 0 : 6;
        }

        private static boolean areSoundRules(Row row, int rules) {
            for (int r = 0; r < rules; r++) {
                int from = HEAD_BYTES + RULE_BYTES * r;
                if (!isSoundRule(row.at(from), row.at(from + 1), row.at(from + 2), row.at(from + 3))) {
                    return false;
                }
            }
            return true;
        }

        private static boolean isSoundRule(int mark, int act, int a, int b) {
            if (mark >= MARKS && mark != END_MARK) {
                return false;
            }
            switch (act) {
                case MAKE:
                    return a < NAMES;
                case WRITE:
                    return a < RESOURCES;
                case ASK:
                    return a < OPTIONS;
                case TELL:
                    return b < TELLABLE;
                default:
                    return act <= ASK;
            }
        }

        private static int sumAheadOfLast(Row row) {
            int sum = 0;
            for (int i = 0; i < row.size() - 1; i++) {
                sum += row.at(i);
            }
            return sum & BYTE;
        }
    }

    /** A PROCESSOR; its RULES are a copy, as its FILE may change behind it. */
    private static final class Processor {
        private final int[] parts;
        private int file;
        private int rules;
        private int value;
        private int keptValue;
        private boolean stopped;
        private int steps;

        Processor() {
            parts = new int[RULE_BYTES * MOST_RULES];
        }

        void become(int newFile, Row row) {
            file = newFile;
            rules = Math.min(row.at(2), MOST_RULES);
            for (int i = 0; i < parts.length; i++) {
                parts[i] = row.at(HEAD_BYTES + i);
            }
            value = 0;
            stopped = false;
            steps = 0;
        }

        int markOf(int rule) {
            return part(RULE_BYTES * rule);
        }

        int actOf(int rule) {
            return part(RULE_BYTES * rule + 1);
        }

        int aOf(int rule) {
            return part(RULE_BYTES * rule + 2);
        }

        int bOf(int rule) {
            return part(RULE_BYTES * rule + 3);
        }

        private int part(int i) {
            return i >= 0 && i < parts.length ? parts[i] : 0;
        }

        void beginRun() {
            keptValue = value;
            stopped = false;
            steps = 0;
        }

        /** What the RUN did to it (STOPPED, STEPS) stays told, only the CELL goes back. */
        void goBack() {
            value = keptValue;
        }

        int aspect(int what) {
            switch (what) {
                case 0:
                    return file;
                case 1:
                    return rules;
                case 2:
                    return oneIf(stopped);
                default:
                    return steps;
            }
        }
    }

    /** All PROCESSORS, made once and used again behind clear. */
    private static final class Processors {
        private final Processor[] all;
        private int count;

        Processors() {
            all = new Processor[PROCESSORS];
            for (int i = 0; i < all.length; i++) {
                all[i] = new Processor();
            }
        }

        int size() {
            return count;
        }

        boolean isFull() {
            return count >= all.length;
        }

        Processor at(int i) {
            return i >= 0 && i < count && i < all.length ? all[i] : null;
        }

        int enlist(int file, Row row) {
            Processor it = count < all.length ? all[count] : null;
            if (it == null) {
                return FULL;
            }
            it.become(file, row);
            count++;
            return count - 1;
        }

        void dismissAll() {
            count = 0;
        }

        void beginRun() {
            for (int i = 0; i < count; i++) {
                Processor it = at(i);
                if (it != null) {
                    it.beginRun();
                }
            }
        }

        void goBack() {
            for (int i = 0; i < count; i++) {
                Processor it = at(i);
                if (it != null) {
                    it.goBack();
                }
            }
        }
    }

    /** All UNITS, by numbers. */
    private static final class Units {
        private final int[] names;
        private final int[] markSets;
        private final boolean[] fresh;
        private final int[] makers;
        private final int[] madeIn;
        private int count;

        Units() {
            names = new int[UNITS];
            markSets = new int[UNITS];
            fresh = new boolean[UNITS];
            makers = new int[UNITS];
            madeIn = new int[UNITS];
        }

        int size() {
            return count;
        }

        boolean isFull() {
            return count >= UNITS;
        }

        boolean has(int i) {
            return i >= 0 && i < count;
        }

        boolean bears(int name) {
            for (int i = 0; i < count; i++) {
                if (names[i] == name) {
                    return true;
                }
            }
            return false;
        }

        int enter(int name, int marks, int maker, int round) {
            if (count >= UNITS) {
                return FULL;
            }
            names[count] = name;
            markSets[count] = marks;
            fresh[count] = true;
            makers[count] = maker;
            madeIn[count] = round;
            count++;
            return count - 1;
        }

        int nameOf(int i) {
            return i >= 0 && i < count ? names[i] : NONE;
        }

        int marksOf(int i) {
            return i >= 0 && i < count ? markSets[i] : 0;
        }

        boolean isNew(int i) {
            return i >= 0 && i < count && fresh[i];
        }

        void retell(int i, int marks) {
            if (i >= 0 && i < count) {
                markSets[i] = marks;
                fresh[i] = true;
            }
        }

        int countNew() {
            int found = 0;
            for (int i = 0; i < count; i++) {
                found += oneIf(fresh[i]);
            }
            return found;
        }

        void makeAllNew() {
            for (int i = 0; i < count; i++) {
                fresh[i] = true;
            }
        }

        void makeOldAheadOf(int end) {
            for (int i = 0; i < count && i < end; i++) {
                fresh[i] = false;
            }
        }

        void cutTo(int size) {
            count = Math.max(0, Math.min(size, count));
        }

        int aspect(int i, int what) {
            if (i < 0 || i >= count) {
                return UNKNOWN;
            }
            switch (what) {
                case 0:
                    return names[i];
                case 1:
                    return markSets[i];
                case 2:
                    return oneIf(fresh[i]);
                case 3:
                    return makers[i];
                default:
                    return madeIn[i];
            }
        }
    }

    /** All MESSAGES; a UNIT's NAME is kept, as the UNIT may go when its RUN is refused. */
    private static final class Messages {
        private final int[] parts;
        private int count;

        Messages() {
            parts = new int[MESSAGES * ASPECTS_OF_MESSAGE];
        }

        int size() {
            return count;
        }

        boolean has(int i) {
            return i >= 0 && i < count;
        }

        void append(int what, int processor, int name, int a, int round) {
            if (count >= MESSAGES) {
                return;
            }
            int from = count * ASPECTS_OF_MESSAGE;
            parts[from] = what;
            parts[from + 1] = processor;
            parts[from + 2] = name;
            parts[from + 3] = a;
            parts[from + 4] = round;
            count++;
        }

        int aspect(int i, int what) {
            if (i < 0 || i >= count || what < 0 || what >= ASPECTS_OF_MESSAGE) {
                return UNKNOWN;
            }
            return parts[i * ASPECTS_OF_MESSAGE + what];
        }

        void forgetAll() {
            count = 0;
        }
    }

    /** All RESOURCES. */
    private static final class Resources {
        private final Row[] rows;

        Resources() {
            rows = new Row[RESOURCES];
            for (int i = 0; i < rows.length; i++) {
                rows[i] = new Row(RESOURCE_BYTES);
            }
        }

        Row at(int r) {
            return r >= 0 && r < rows.length ? rows[r] : null;
        }

        void emptyAll() {
            for (Row row : rows) {
                if (row != null) {
                    row.empty();
                }
            }
        }

        void keep() {
            for (Row row : rows) {
                if (row != null) {
                    row.keep();
                }
            }
        }

        void goBack() {
            for (Row row : rows) {
                if (row != null) {
                    row.goBack();
                }
            }
        }
    }

    /** Makes RUNS and tells of the latest one. */
    private static final class Runner {
        private final Processors processors;
        private final Units units;
        private final Messages messages;
        private final Resources resources;
        private final int[] options;
        private final int[] claimants;
        private boolean passes;
        private int limit;
        private int state;
        private int steps;
        private int rounds;
        private int made;
        private int doer;
        private int met;
        private int round;

        Runner() {
            processors = new Processors();
            units = new Units();
            messages = new Messages();
            resources = new Resources();
            options = new int[OPTIONS];
            claimants = new int[MARKS];
        }

        int go(int n, boolean passesThrow) {
            begin(n, passesThrow);
            int ahead = units.size();
            int from = 0;
            int to = units.countNew() > 0 ? ahead : 0;
            // each ROUND has a UNIT that no other has, so there can not be more of them than UNITS
            for (int k = 0; k < UNITS && state == GOING && from < to; k++) {
                makeRound(from, to);
                from = to;
                to = units.size();
            }
            int endsAt = units.size();
            if (state == GOING && rounds > 0) {
                makeEnd();
            }
            if (state != GOING) {
                goBack(ahead);
                return state;
            }
            units.makeOldAheadOf(endsAt);
            made = units.size() - ahead;
            return rounds;
        }

        private void begin(int n, boolean passesThrow) {
            limit = n;
            passes = passesThrow;
            state = GOING;
            steps = 0;
            rounds = 0;
            made = 0;
            processors.beginRun();
            resources.keep();
        }

        private void goBack(int unitsAhead) {
            units.cutTo(unitsAhead);
            processors.goBack();
            resources.goBack();
        }

        /** UNITS MADE in a ROUND lie behind its own, so NEW ones from .. to are just the ROUND's. */
        private void makeRound(int from, int to) {
            rounds++;
            round = rounds;
            for (int mark = 0; mark < claimants.length; mark++) {
                claimants[mark] = NONE;
            }
            for (int p = 0; p < processors.size(); p++) {
                for (int u = from; u < to; u++) {
                    if (units.isNew(u)) {
                        doRules(p, u);
                    }
                }
            }
        }

        private void makeEnd() {
            round = rounds + 1;
            for (int p = 0; p < processors.size(); p++) {
                doRules(p, NONE);
            }
        }

        private void doRules(int processor, int unit) {
            Processor it = processors.at(processor);
            if (it == null) {
                return;
            }
            doer = processor;
            met = unit;
            int next = 0;
            for (int r = 0; r < it.rules && state == GOING && !it.stopped; r++) {
                if (r >= next && isDue(it.markOf(r))) {
                    next = r + 1 + doRule(it, r);
                }
            }
        }

        private boolean isDue(int mark) {
            if (met == NONE) {
                return mark == END_MARK;
            }
            if (mark < 0 || mark >= claimants.length) {
                return false;
            }
            boolean isFree = claimants[mark] == NONE || claimants[mark] == doer;
            return isFree && (units.marksOf(met) >> mark & 1) == 1;
        }

        /** Answers how many RULES behind this one are passed over. */
        private int doRule(Processor it, int rule) {
            if (!takeSteps(it, 1)) {
                return 0;
            }
            int a = it.aOf(rule);
            int b = it.bOf(rule);
            int toTell = NONE;
            switch (it.actOf(rule)) {
                case CLAIM:
                    claim(it.markOf(rule));
                    break;
                case MAKE:
                    toTell = make(a, b);
                    break;
                case TELL:
                    toTell = b;
                    break;
                case ADD:
                    it.value += a > HIGHEST_POSITIVE ? a - BYTE - 1 : a;
                    break;
                case THROW:
                    toTell = THREW;
                    stop(it);
                    break;
                case WORK:
                    takeSteps(it, a * b);
                    break;
                case CHANGE:
                    toTell = MAY_NOT_CHANGE;
                    break;
                case WRITE:
                    toTell = write(a, b);
                    break;
                case SKIP:
                    return it.value >= a ? b : 0;
                case ASK:
                    it.value = optionAt(a);
                    break;
                default:
                    break;
            }
            if (toTell != NONE) {
                messages.append(toTell, doer, units.nameOf(met), a, round);
            }
            return 0;
        }

        private boolean takeSteps(Processor it, int n) {
            if (n > limit - steps) {
                state = SPENT;
                return false;
            }
            steps += n;
            it.steps += n;
            return true;
        }

        private void claim(int mark) {
            if (mark >= 0 && mark < claimants.length) {
                claimants[mark] = doer;
            }
        }

        /** Answers the MESSAGE that is due, or NONE. */
        private int make(int name, int marks) {
            if (units.bears(name)) {
                return NAME_IS_TAKEN;
            }
            if (units.isFull()) {
                return NO_ROOM;
            }
            units.enter(name, marks, doer, round);
            return met == NONE ? MADE_AT_END : NONE;
        }

        private void stop(Processor it) {
            it.stopped = true;
            if (!passes) {
                state = REFUSED;
            }
        }

        /** Answers the MESSAGE that is due, or NONE. */
        private int write(int r, int value) {
            Row row = resources.at(r);
            return row != null && row.append(value) ? NONE : NO_ROOM;
        }

        private int optionAt(int i) {
            return i >= 0 && i < options.length ? options[i] : 0;
        }
    }
}
