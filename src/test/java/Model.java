import java.util.ArrayList;
import java.util.Arrays;
import java.util.HashMap;
import java.util.List;
import java.util.Map;

/**
 * A second program of the same document, as slow and plain as can be: all that a RUN may change is copied ahead of it.
 * An answer that throws is told as Check tells it.
 */
final class Model {
    private static final class Unit {
        int name;
        int marks;
        boolean isNew = true;
        int maker = -1;
        int round = 0;

        Unit(int name, int marks) {
            this.name = name;
            this.marks = marks;
        }

        Unit copy() {
            Unit u = new Unit(name, marks);
            u.isNew = isNew;
            u.maker = maker;
            u.round = round;
            return u;
        }
    }

    private static final class Plug {
        int file;
        List<int[]> rules = new ArrayList<>();
        int cell;
        boolean stopped;
        int steps;
    }

    /** Ends a RUN that is SPENT or REFUSED. */
    private static final class Halt extends RuntimeException {
        private static final long serialVersionUID = 1L;
        final int answer;

        Halt(int answer) {
            this.answer = answer;
        }
    }

    private final List<Integer> tape = new ArrayList<>();
    private final List<List<Integer>> files = new ArrayList<>();
    private final boolean[] failing = new boolean[6];
    private final boolean[] failed = new boolean[6];
    private final int[] options = new int[4];
    private List<Plug> plugs = new ArrayList<>();
    private List<Unit> units = new ArrayList<>();
    private List<int[]> messages = new ArrayList<>();
    private List<List<Integer>> resources = new ArrayList<>();
    private boolean passes;
    private int limit;
    private int steps;
    private int rounds;
    private int made;
    private int round;
    private Map<Integer, Plug> claims;
    private List<Unit> coming;

    Model() {
        for (int i = 0; i < 6; i++) {
            files.add(new ArrayList<>());
        }
        emptyResources();
    }

    private void emptyResources() {
        resources = new ArrayList<>();
        for (int i = 0; i < 4; i++) {
            resources.add(new ArrayList<>());
        }
    }

    private static boolean in(int v, int low, int high) {
        return low <= v && v <= high;
    }

    int feed(int n, long w) {
        if (!in(n, 1, 8)) {
            return -102;
        }
        if (tape.size() + n > 64) {
            return -104;
        }
        byte[] bytes = java.nio.ByteBuffer.allocate(8).putLong(w).array();
        for (int i = 8 - n; i < 8; i++) {
            tape.add(bytes[i] & 255);
        }
        return tape.size();
    }

    int lay(int file) {
        if (!in(file, 0, 5)) {
            return -101;
        }
        files.set(file, new ArrayList<>(tape));
        tape.clear();
        failing[file] = false;
        failed[file] = false;
        return files.get(file).size();
    }

    int octet(int file, int i) {
        return !in(file, 0, 5) || !in(i, 0, files.get(file).size() - 1) ? Check.AIOOBE : files.get(file).get(i).byteValue();
    }

    int plant(int file, int i, int mask) {
        if (!in(file, 0, 5) || !in(i, 0, files.get(file).size() - 1)) {
            return -101;
        }
        if (!in(mask, 0, 255)) {
            return -102;
        }
        files.get(file).set(i, files.get(file).get(i) ^ mask);
        return files.get(file).get(i);
    }

    int fails(int file, boolean does) {
        if (!in(file, 0, 5)) {
            return -101;
        }
        int was = failing[file] ? 1 : 0;
        failing[file] = does;
        failed[file] = false;
        return was;
    }

    int judge(int file) {
        if (!in(file, 0, 5)) {
            return -101;
        }
        List<Integer> f = files.get(file);
        if (f.size() < 4) {
            return 1;
        }
        if (!f.subList(0, 2).equals(Arrays.asList(80, 82))) {
            return 2;
        }
        if (!in(f.get(2), 1, 12)) {
            return 3;
        }
        if (f.size() != 4 * f.get(2) + 4) {
            return 4;
        }
        int sum = 80 + 82 + f.get(2);
        for (int[] rule : rulesOf(f)) {
            boolean a = rule[1] == 1 ? rule[2] <= 63 : rule[1] == 7 || rule[1] == 9 ? rule[2] <= 3 : true;
            boolean b = rule[1] == 2 ? rule[3] <= 2 : true;
            if (!in(rule[0], 0, 7) && rule[0] != 15 || rule[1] > 9 || !a || !b) {
                return 5;
            }
            sum += rule[0] + rule[1] + rule[2] + rule[3];
        }
        return sum % 256 == f.get(f.size() - 1) ? 0 : 6;
    }

    private static List<int[]> rulesOf(List<Integer> f) {
        List<int[]> rules = new ArrayList<>();
        for (int i = 3; i + 4 < f.size(); i += 4) {
            rules.add(new int[] {f.get(i), f.get(i + 1), f.get(i + 2), f.get(i + 3)});
        }
        return rules;
    }

    int define(int file) {
        int clause = judge(file);
        if (clause != 0) {
            return clause < 0 ? clause : -10 - clause;
        }
        if (plugs.size() == 6) {
            return -104;
        }
        if (failing[file]) {
            int answer = failed[file] ? -32 : -31;
            failed[file] = true;
            return answer;
        }
        Plug p = new Plug();
        p.file = file;
        p.rules = rulesOf(files.get(file));
        plugs.add(p);
        return plugs.size() - 1;
    }

    private boolean named(int name) {
        return units.stream().anyMatch(u -> u.name == name);
    }

    int unit(int name, int marks) {
        if (!in(name, 0, 63) || !in(marks, 0, 255)) {
            return -102;
        }
        if (named(name)) {
            return -103;
        }
        if (units.size() == 40) {
            return -104;
        }
        units.add(new Unit(name, marks));
        return units.size() - 1;
    }

    int marks(int unit, int marks) {
        if (!in(unit, 0, units.size() - 1)) {
            return -101;
        }
        if (!in(marks, 0, 255)) {
            return -102;
        }
        Unit u = units.get(unit);
        int was = u.marks;
        u.marks = marks;
        u.isNew = true;
        return was;
    }

    int anew() {
        int old = (int) units.stream().filter(u -> !u.isNew).count();
        units.forEach(u -> u.isNew = true);
        return old;
    }

    int option(int i, int v) {
        if (!in(i, 0, 3)) {
            return -102;
        }
        int was = options[i];
        options[i] = v;
        return was;
    }

    int pass(boolean does) {
        int was = passes ? 1 : 0;
        passes = does;
        return was;
    }

    int run(int n) {
        if (!in(n, 0, 100000)) {
            return -102;
        }
        List<Unit> unitsAhead = new ArrayList<>();
        units.forEach(u -> unitsAhead.add(u.copy()));
        List<List<Integer>> resourcesAhead = new ArrayList<>();
        resources.forEach(r -> resourcesAhead.add(new ArrayList<>(r)));
        int[] cellsAhead = plugs.stream().mapToInt(p -> p.cell).toArray();
        limit = n;
        steps = 0;
        rounds = 0;
        made = 0;
        for (Plug p : plugs) {
            p.stopped = false;
            p.steps = 0;
        }
        try {
            allRounds();
            made = units.size() - unitsAhead.size();
            return rounds;
        } catch (Halt h) {
            units = unitsAhead;
            resources = resourcesAhead;
            for (int p = 0; p < cellsAhead.length; p++) {
                plugs.get(p).cell = cellsAhead[p];
            }
            return h.answer;
        }
    }

    private void allRounds() {
        List<Unit> these = new ArrayList<>(units);
        these.removeIf(u -> !u.isNew);
        if (these.isEmpty()) {
            return;
        }
        while (!these.isEmpty()) {
            rounds++;
            round = rounds;
            claims = new HashMap<>();
            coming = new ArrayList<>();
            for (Plug p : plugs) {
                for (Unit u : these) {
                    meet(p, u);
                }
            }
            these = coming;
        }
        round = rounds + 1;
        coming = new ArrayList<>();
        for (Plug p : plugs) {
            meet(p, null);
        }
        for (Unit u : units) {
            u.isNew = coming.contains(u);
        }
    }

    private void meet(Plug p, Unit u) {
        int r = 0;
        while (r < p.rules.size()) {
            if (p.stopped) {
                return;
            }
            int[] rule = p.rules.get(r);
            r++;
            boolean due = rule[0] == 15 ? u == null
                : u != null && (u.marks & 1 << rule[0]) != 0 && claims.getOrDefault(rule[0], p) == p;
            if (due) {
                step(p, 1);
                if (rule[1] == 8) {
                    r += p.cell >= rule[2] ? rule[3] : 0;
                } else {
                    act(p, u, rule);
                }
            }
        }
    }

    private void step(Plug p, int n) {
        if (steps + n > limit) {
            throw new Halt(-11);
        }
        steps += n;
        p.steps += n;
    }

    private void tell(int what, Plug p, Unit u, int a) {
        if (messages.size() < 120) {
            messages.add(new int[] {what, plugs.indexOf(p), u == null ? -1 : u.name, a, round});
        }
    }

    private void act(Plug p, Unit u, int[] rule) {
        int a = rule[2];
        int b = rule[3];
        if (rule[1] == 0 && u != null) {
            claims.put(rule[0], p);
        } else if (rule[1] == 1) {
            makeUnit(p, u, a, b);
        } else if (rule[1] == 2) {
            tell(b, p, u, a);
        } else if (rule[1] == 3) {
            p.cell += (byte) a;
        } else if (rule[1] == 4) {
            tell(5, p, u, a);
            p.stopped = true;
            if (!passes) {
                throw new Halt(-12);
            }
        } else if (rule[1] == 5) {
            step(p, a * b);
        } else if (rule[1] == 6) {
            tell(6, p, u, a);
        } else if (rule[1] == 7 && resources.get(a).size() == 100) {
            tell(4, p, u, a);
        } else if (rule[1] == 7) {
            resources.get(a).add(b);
        } else if (rule[1] == 9) {
            p.cell = options[a];
        }
    }

    private void makeUnit(Plug p, Unit u, int a, int b) {
        if (named(a)) {
            tell(3, p, u, a);
            return;
        }
        if (units.size() == 40) {
            tell(4, p, u, a);
            return;
        }
        Unit it = new Unit(a, b);
        it.maker = plugs.indexOf(p);
        it.round = round;
        units.add(it);
        coming.add(it);
        if (u == null) {
            tell(7, p, null, a);
        }
    }

    int mirror(int unit, int what) {
        if (!in(unit, 0, units.size() - 1)) {
            return -101;
        }
        Unit u = units.get(unit);
        int[] all = {u.name, u.marks, u.isNew ? 1 : 0, u.maker, u.round};
        return in(what, 0, 4) ? all[what] : -102;
    }

    int message(int i, int what) {
        if (!in(i, 0, messages.size() - 1)) {
            return -101;
        }
        return in(what, 0, 4) ? messages.get(i)[what] : -102;
    }

    int told(int processor, int what) {
        if (!in(processor, 0, plugs.size() - 1)) {
            return -101;
        }
        Plug p = plugs.get(processor);
        int[] all = {p.file, p.rules.size(), p.stopped ? 1 : 0, p.steps};
        return in(what, 0, 3) ? all[what] : -102;
    }

    int cell(int processor) {
        if (!in(processor, 0, 5)) {
            return Check.AIOOBE;
        }
        return processor < plugs.size() ? plugs.get(processor).cell : Check.NPE;
    }

    int resource(int r, int i) {
        return in(r, 0, 3) && in(i, 0, resources.get(r).size() - 1) ? resources.get(r).get(i) : Check.AIOOBE;
    }

    int about(int what) {
        int isNew = (int) units.stream().filter(u -> u.isNew).count();
        int[] all = {units.size(), plugs.size(), messages.size(), isNew, steps, rounds, made};
        if (in(what, 10, 13)) {
            return resources.get(what - 10).size();
        }
        return in(what, 0, 6) ? all[what] : -102;
    }

    int clear() {
        int were = units.size();
        units = new ArrayList<>();
        plugs = new ArrayList<>();
        messages = new ArrayList<>();
        emptyResources();
        return were;
    }
}
