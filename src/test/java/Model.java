import java.util.ArrayList;
import java.util.HashMap;
import java.util.List;
import java.util.Map;
import java.util.Set;
import java.util.TreeMap;
import java.util.TreeSet;

/**
 * The document once more, written for clearness alone: sets are sets, keys are maps, and what may
 * fail is tried on a copy of all. RandomRunsTest compares the program with it.
 */
final class Model {
    private static final class CannotBuild extends Exception {
        private static final long serialVersionUID = 1;
    }

    private static final class Action {
        Set<Integer> files;
        Set<Integer> actions;
        Set<Integer> settings;
        Set<Integer> out;
        int cost;
        int size;
    }

    private static final class Worker {
        int fault;
        int trust = 50;
        int runs;
        int busy;
        int checks;
    }

    private static final class Team {
        int quota;
        int saved;
        int builds;
    }

    private static final class Entry {
        int action;
        int worker;
        int team;
        int print;
        int hits;
        int state;
        int worthFactor;
        int size;
        Map<String, Integer> key;
        Map<Integer, Integer> from;
        Map<Integer, Integer> outValues;
    }

    private static final class All {
        final Map<Integer, Integer> contents = new TreeMap<>();
        final Map<Integer, Integer> values = new TreeMap<>();
        final List<Action> actions = new ArrayList<>();
        final List<Worker> workers = new ArrayList<>();
        final List<Team> teams = new ArrayList<>();
        final List<Entry> entries = new ArrayList<>();
        int check;
        int hits;
        int wrong;

        All copy() {
            All c = new All();
            c.contents.putAll(contents);
            c.values.putAll(values);
            for (Action a : actions) {
                Action b = new Action();
                b.files = new TreeSet<>(a.files);
                b.actions = new TreeSet<>(a.actions);
                b.settings = new TreeSet<>(a.settings);
                b.out = new TreeSet<>(a.out);
                b.cost = a.cost;
                b.size = a.size;
                c.actions.add(b);
            }
            for (Worker w : workers) {
                Worker v = new Worker();
                v.fault = w.fault;
                v.trust = w.trust;
                v.runs = w.runs;
                v.busy = w.busy;
                v.checks = w.checks;
                c.workers.add(v);
            }
            for (Team t : teams) {
                Team u = new Team();
                u.quota = t.quota;
                u.saved = t.saved;
                u.builds = t.builds;
                c.teams.add(u);
            }
            for (Entry e : entries) {
                Entry f = new Entry();
                f.action = e.action;
                f.worker = e.worker;
                f.team = e.team;
                f.print = e.print;
                f.hits = e.hits;
                f.state = e.state;
                f.worthFactor = e.worthFactor;
                f.size = e.size;
                f.key = e.key;
                f.from = e.from;
                f.outValues = e.outValues;
                c.entries.add(f);
            }
            c.check = check;
            c.hits = hits;
            c.wrong = wrong;
            return c;
        }

        int print(int number, Map<Integer, Integer> prints) {
            Action a = actions.get(number);
            int sumA = a.files.stream().mapToInt(f -> (f + 1) * contents.get(f)).sum();
            int sumB = a.actions.stream().mapToInt(r -> (r + 2) * prints.get(r)).sum();
            int sumC = a.settings.stream().mapToInt(s -> (s + 1) * values.get(s)).sum();
            return (31 * number + 7 * sumA + 5 * sumB + 3 * sumC) % 997;
        }

        int cleanPrint(int number) {
            Map<Integer, Integer> prints = new HashMap<>();
            for (int r : actions.get(number).actions) {
                prints.put(r, cleanPrint(r));
            }
            return print(number, prints);
        }

        int choose(int except) {
            int best = -1;
            for (int w = workers.size() - 1; w >= 0; w--) {
                Worker x = workers.get(w);
                if (w == except || x.trust < 20) {
                    continue;
                }
                if (best < 0 || x.trust > workers.get(best).trust
                        || (x.trust == workers.get(best).trust && x.busy <= workers.get(best).busy)) {
                    best = w;
                }
            }
            return best;
        }

        int run(int number, int worker, Map<Integer, Integer> prints) {
            Worker w = workers.get(worker);
            w.runs++;
            w.busy += actions.get(number).cost;
            int print = print(number, prints);
            if (w.fault > 0 && w.runs % w.fault == 0) {
                print = print == 996 ? 0 : print + 1;
            }
            return print;
        }

        Map<String, Integer> inputs(int number) {
            Action a = actions.get(number);
            Map<String, Integer> key = new TreeMap<>();
            a.files.forEach(f -> key.put("file " + f, contents.get(f)));
            for (int s : a.settings) {
                if (!a.out.contains(s)) {
                    key.put("setting " + s, values.get(s));
                }
            }
            return key;
        }

        Map<String, Integer> key(int number, Map<Integer, Integer> prints) {
            Map<String, Integer> key = inputs(number);
            actions.get(number).actions.forEach(r -> key.put("action " + r, prints.get(r)));
            return key;
        }

        int used(int team) {
            return entries.stream().filter(e -> e.team == team && e.state == 0).mapToInt(e -> e.size).sum();
        }

        int shrink(int team, int room) {
            int gone = 0;
            while (used(team) > room) {
                Entry least = null;
                for (Entry e : entries) {
                    if (e.team == team && e.state == 0 && (least == null || worth(e) < worth(least))) {
                        least = e;
                    }
                }
                least.state = 1;
                gone++;
            }
            return gone;
        }

        static int worth(Entry e) {
            return e.worthFactor * (e.hits + 1) * 10 / e.size;
        }

        int enter(int number, int worker, int team, int print, Map<Integer, Integer> prints,
                Map<Integer, Integer> from) throws CannotBuild {
            if (entries.size() == 60) {
                throw new CannotBuild();
            }
            Action a = actions.get(number);
            Entry e = new Entry();
            e.action = number;
            e.worker = worker;
            e.team = team;
            e.print = print;
            e.worthFactor = a.cost;
            e.size = a.size;
            e.key = key(number, prints);
            e.from = new TreeMap<>();
            a.actions.forEach(r -> e.from.put(r, from.get(r)));
            e.outValues = new TreeMap<>();
            a.out.forEach(s -> e.outValues.put(s, values.get(s)));
            int quota = teams.get(team).quota;
            if (a.size > quota) {
                e.state = 1;
            } else {
                shrink(team, quota - a.size);
            }
            entries.add(e);
            return entries.size() - 1;
        }

        Set<Integer> cameOf(int entry) {
            Set<Integer> found = new TreeSet<>();
            boolean more = true;
            while (more) {
                more = false;
                for (int e = 0; e < entries.size(); e++) {
                    for (int source : entries.get(e).from.values()) {
                        if ((source == entry || found.contains(source)) && found.add(e)) {
                            more = true;
                        }
                    }
                }
            }
            return found;
        }

        /** NONE if it could not be checked, the entry itself if it was right, else the new one. */
        int check(int entry, int team, Map<Integer, Integer> prints, Map<Integer, Integer> from)
                throws CannotBuild {
            Entry e = entries.get(entry);
            Action a = actions.get(e.action);
            int checker = choose(e.worker);
            if (checker < 0) {
                return -1;
            }
            int print = run(e.action, checker, prints);
            workers.get(checker).checks++;
            Worker maker = workers.get(e.worker);
            if (print == e.print) {
                maker.trust = Math.min(100, maker.trust + 5);
                return entry;
            }
            wrong++;
            Set<Integer> changed = new TreeSet<>();
            for (int s : a.out) {
                if (!e.outValues.get(s).equals(values.get(s))) {
                    changed.add(s);
                }
            }
            if (changed.isEmpty()) {
                maker.trust = Math.max(0, maker.trust - 30);
            } else {
                a.out.removeAll(changed);
                for (Entry other : entries) {
                    if (other.action == e.action && other.state == 0) {
                        other.state = 1;
                    }
                }
            }
            e.state = 2;
            for (int poisoned : cameOf(entry)) {
                entries.get(poisoned).state = 2;
            }
            return enter(e.action, checker, team, print, prints, from);
        }

        void needed(int number, Set<Integer> found) {
            found.add(number);
            actions.get(number).actions.forEach(r -> needed(r, found));
        }

        int build(int team, int number) throws CannotBuild {
            Set<Integer> needed = new TreeSet<>();
            needed(number, needed);
            Map<Integer, Integer> prints = new HashMap<>();
            Map<Integer, Integer> from = new HashMap<>();
            for (int a : needed) {
                int got = -1;
                Map<String, Integer> key = key(a, prints);
                for (int e = 0; e < entries.size() && got < 0; e++) {
                    Entry x = entries.get(e);
                    if (x.action == a && x.state == 0 && x.key.equals(key)) {
                        got = e;
                    }
                }
                if (got >= 0) {
                    entries.get(got).hits++;
                    hits++;
                    teams.get(team).saved += actions.get(a).cost;
                    if (check > 0 && hits % check == 0) {
                        int checked = check(got, team, prints, from);
                        got = checked < 0 ? got : checked;
                    }
                } else {
                    int worker = choose(-1);
                    if (worker < 0) {
                        throw new CannotBuild();
                    }
                    got = enter(a, worker, team, run(a, worker, prints), prints, from);
                }
                prints.put(a, entries.get(got).print);
                from.put(a, got);
            }
            teams.get(team).builds++;
            return prints.get(number);
        }
    }

    private All all = new All();

    Model() {
        for (int f = 0; f < 8; f++) {
            all.contents.put(f, 0);
        }
        for (int s = 0; s < 6; s++) {
            all.values.put(s, 0);
        }
    }

    private static Set<Integer> members(int set) {
        Set<Integer> found = new TreeSet<>();
        for (int k = 0; k < 32; k++) {
            if ((set >>> k) % 2 == 1) {
                found.add(k);
            }
        }
        return found;
    }

    private static int sum(Set<Integer> set) {
        return set.stream().mapToInt(k -> 1 << k).sum();
    }

    private static void index(int index, int count) {
        if (index < 0 || index >= count) {
            throw new IndexOutOfBoundsException();
        }
    }

    private static void argument(int number, int least, int most) {
        if (number < least || number > most) {
            throw new IllegalArgumentException();
        }
    }

    private static void state(boolean fine) {
        if (!fine) {
            throw new IllegalStateException();
        }
    }

    public int action(int files, int actions, int settings, int out, int cost, int size) {
        argument(files, 0, 255);
        for (int a : members(actions)) {
            argument(a, 0, all.actions.size() - 1);
        }
        argument(settings, 0, 63);
        if (!members(settings).containsAll(members(out))) {
            throw new IllegalArgumentException();
        }
        argument(cost, 1, 50);
        argument(size, 1, 20);
        state(all.actions.size() < 14);
        Action a = new Action();
        a.files = members(files);
        a.actions = members(actions);
        a.settings = members(settings);
        a.out = members(out);
        a.cost = cost;
        a.size = size;
        all.actions.add(a);
        return all.actions.size() - 1;
    }

    public int file(int file, int content) {
        index(file, 8);
        argument(content, 0, 99);
        return all.contents.put(file, content);
    }

    public int set(int setting, int value) {
        index(setting, 6);
        argument(value, 0, 9);
        return all.values.put(setting, value);
    }

    public int ofAction(int action, int what) {
        index(action, all.actions.size());
        argument(what, 0, 7);
        Action a = all.actions.get(action);
        int kept = (int) all.entries.stream().filter(e -> e.action == action && e.state == 0).count();
        return new int[] {sum(a.files), sum(a.actions), sum(a.settings), sum(a.out), a.cost, a.size,
            all.cleanPrint(action), kept}[what];
    }

    public int worker(int fault) {
        argument(fault, 0, 9);
        state(all.workers.size() < 4);
        Worker w = new Worker();
        w.fault = fault;
        all.workers.add(w);
        return all.workers.size() - 1;
    }

    public int ofWorker(int worker, int what) {
        index(worker, all.workers.size());
        argument(what, 0, 4);
        Worker w = all.workers.get(worker);
        int poisoned = (int) all.entries.stream().filter(e -> e.worker == worker && e.state == 2).count();
        return new int[] {w.trust, w.runs, w.busy, poisoned, w.checks}[what];
    }

    public int mend(int worker, int fault) {
        index(worker, all.workers.size());
        argument(fault, 0, 9);
        Worker w = all.workers.get(worker);
        int before = w.trust;
        w.trust = 50;
        w.fault = fault;
        return before;
    }

    public int team(int quota) {
        argument(quota, 0, 100);
        state(all.teams.size() < 4);
        Team t = new Team();
        t.quota = quota;
        all.teams.add(t);
        return all.teams.size() - 1;
    }

    public int quota(int team, int quota) {
        index(team, all.teams.size());
        argument(quota, 0, 100);
        all.teams.get(team).quota = quota;
        return all.shrink(team, quota);
    }

    public int ofTeam(int team, int what) {
        index(team, all.teams.size());
        argument(what, 0, 4);
        Team t = all.teams.get(team);
        int kept = (int) all.entries.stream().filter(e -> e.team == team && e.state == 0).count();
        return new int[] {t.quota, all.used(team), t.saved, t.builds, kept}[what];
    }

    public int build(int team, int action) {
        index(team, all.teams.size());
        index(action, all.actions.size());
        All tried = all.copy();
        int print;
        try {
            print = tried.build(team, action);
        } catch (CannotBuild e) {
            throw new IllegalStateException();
        }
        all = tried;
        return print;
    }

    public int check(int check) {
        argument(check, 0, 9);
        int before = all.check;
        all.check = check;
        return before;
    }

    public int recheck(int entry) {
        index(entry, all.entries.size());
        Entry e = all.entries.get(entry);
        state(e.state == 0);
        state(all.entries.size() < 60);
        Map<Integer, Integer> prints = new HashMap<>();
        e.from.forEach((a, source) -> prints.put(a, all.entries.get(source).print));
        state(all.key(e.action, prints).equals(e.key));
        try {
            int checked = all.check(entry, e.team, prints, e.from);
            return checked < 0 ? 0 : checked == entry ? 1 : 2;
        } catch (CannotBuild never) {
            throw new AssertionError(never);
        }
    }

    public int ofEntry(int entry, int what) {
        index(entry, all.entries.size());
        argument(what, 0, 7);
        Entry e = all.entries.get(entry);
        return new int[] {e.action, e.worker, e.team, e.print, e.hits, e.state, All.worth(e),
            all.cameOf(entry).size()}[what];
    }

    public int from(int entry, int action) {
        index(entry, all.entries.size());
        Integer source = all.entries.get(entry).from.get(action);
        if (source == null) {
            throw new IndexOutOfBoundsException();
        }
        return source;
    }

    public int many(int what) {
        argument(what, 0, 9);
        int[] states = new int[3];
        all.entries.forEach(e -> states[e.state]++);
        int runs = all.workers.stream().mapToInt(w -> w.runs).sum();
        return new int[] {all.actions.size(), all.workers.size(), all.teams.size(), all.entries.size(),
            states[0], states[1], states[2], all.hits, runs, all.wrong}[what];
    }

    public double hitShare() {
        return all.hits == 0 ? 0.0 : (double) all.hits / (all.hits + all.entries.size());
    }

    public int wouldRun(int team, int action) {
        All before = all;
        int runs = many(8);
        try {
            build(team, action);
            return many(8) - runs;
        } catch (IllegalStateException e) {
            return -1;
        } finally {
            all = before;
        }
    }

    public boolean wouldBeWrong(int team, int action) {
        All before = all;
        try {
            return build(team, action) != before.cleanPrint(action);
        } catch (IllegalStateException e) {
            return false;
        } finally {
            all = before;
        }
    }

    private boolean reads(int action, int file) {
        Action a = all.actions.get(action);
        return a.files.contains(file) || a.actions.stream().anyMatch(r -> reads(r, file));
    }

    public int touched(int file) {
        index(file, 8);
        return (int) all.entries.stream().filter(e -> e.state == 0 && reads(e.action, file)).count();
    }

    public int wouldGo(int team, int size) {
        index(team, all.teams.size());
        argument(size, 1, 20);
        int quota = all.teams.get(team).quota;
        return size > quota ? 0 : all.copy().shrink(team, quota - size);
    }

    public long digest() {
        List<Long> told = new ArrayList<>();
        for (int what = 0; what <= 9; what++) {
            told.add((long) many(what));
        }
        for (int a = 0; a < all.actions.size(); a++) {
            for (int what = 0; what <= 7; what++) {
                told.add((long) ofAction(a, what));
            }
        }
        for (int w = 0; w < all.workers.size(); w++) {
            for (int what = 0; what <= 4; what++) {
                told.add((long) ofWorker(w, what));
            }
        }
        for (int t = 0; t < all.teams.size(); t++) {
            for (int what = 0; what <= 4; what++) {
                told.add((long) ofTeam(t, what));
            }
            for (int a = 0; a < all.actions.size(); a++) {
                told.add((long) wouldRun(t, a));
            }
        }
        for (int e = 0; e < all.entries.size(); e++) {
            for (int what = 0; what <= 7; what++) {
                told.add((long) ofEntry(e, what));
            }
        }
        for (int f = 0; f < 8; f++) {
            told.add((long) touched(f));
        }
        long d = 5747;
        for (long v : told) {
            d = d * 31 + v;
        }
        return d;
    }
}
