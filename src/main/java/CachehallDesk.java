// Words in capitals, and section numbers, are those of ../shared/DOC.md.
public final class CachehallDesk {
    private static final int NONE = -1;

    private static final int FILES = 8;
    private static final int SETTINGS = 6;
    private static final int MOST_ACTIONS = 14;
    private static final int MOST_WORKERS = 4;
    private static final int MOST_TEAMS = 4;
    private static final int MOST_ENTRIES = 60;

    private static final int ALL_FILES = 255;
    private static final int ALL_SETTINGS = 63;
    private static final int MOST_CONTENT = 99;
    private static final int MOST_VALUE = 9;
    private static final int MOST_COST = 50;
    private static final int MOST_SIZE = 20;
    private static final int MOST_FAULT = 9;
    private static final int MOST_QUOTA = 100;
    private static final int MOST_CHECK = 9;

    private static final int PRINTS = 997;

    private static final int FIRST_TRUST = 50;
    private static final int MOST_TRUST = 100;
    private static final int LEAST_TRUST_TO_RUN = 20;
    private static final int TRUST_FOR_SAME = 5;
    private static final int TRUST_FOR_WRONG = -30;

    private static final int KEPT = 0;
    private static final int GONE = 1;
    private static final int POISONED = 2;

    private static final int UNCHECKED = 0;
    private static final int SAME = 1;
    private static final int WRONG = 2;

    private static final long DIGEST_START = 5747;

    private final Builder builder;
    private final Plan plan;
    private final Crew crew;
    private final Teams teams;
    private final Cache cache;

    public CachehallDesk() {
        builder = new Builder();
        plan = builder.plan;
        crew = builder.crew;
        teams = builder.teams;
        cache = builder.cache;
    }

    // ---- what is built

    public int action(int files, int actions, int settings, int out, int cost, int size)
            throws IllegalArgumentException, IllegalStateException {
        needArgument(isWithin(files, 0, ALL_FILES));
        needArgument(isPartOf(actions, plan.allActions()));
        needArgument(isWithin(settings, 0, ALL_SETTINGS));
        needArgument(isPartOf(out, settings));
        needArgument(isWithin(cost, 1, MOST_COST));
        needArgument(isWithin(size, 1, MOST_SIZE));
        needState(plan.count < MOST_ACTIONS);
        int added = plan.count;
        plan.files[added] = files;
        plan.actions[added] = actions;
        plan.settings[added] = settings;
        plan.out[added] = out;
        plan.cost[added] = cost;
        plan.size[added] = size;
        plan.count++;
        return added;
    }

    public int file(int file, int content) throws IndexOutOfBoundsException, IllegalArgumentException {
        needIndex(file, FILES);
        needArgument(isWithin(content, 0, MOST_CONTENT));
        int before = plan.contents[file];
        plan.contents[file] = content;
        return before;
    }

    public int set(int setting, int value) throws IndexOutOfBoundsException, IllegalArgumentException {
        needIndex(setting, SETTINGS);
        needArgument(isWithin(value, 0, MOST_VALUE));
        int before = plan.values[setting];
        plan.values[setting] = value;
        return before;
    }

    public int ofAction(int action, int what) throws IndexOutOfBoundsException, IllegalArgumentException {
        needIndex(action, plan.count);
        needArgument(isWithin(what, 0, 7));
        switch (what) {
            case 0: return plan.files[action];
            case 1: return plan.actions[action];
            case 2: return plan.settings[action];
            case 3: return plan.out[action];
            case 4: return plan.cost[action];
            case 5: return plan.size[action];
            case 6: return plan.cleanPrint(action);
            default: return cache.keptOfActions(1 << action);
        }
    }

    // ---- workers and teams

    public int worker(int fault) throws IllegalArgumentException, IllegalStateException {
        needArgument(isWithin(fault, 0, MOST_FAULT));
        needState(crew.count < MOST_WORKERS);
        int added = crew.count;
        crew.fault[added] = fault;
        crew.trust[added] = FIRST_TRUST;
        crew.count++;
        return added;
    }

    public int ofWorker(int worker, int what) throws IndexOutOfBoundsException, IllegalArgumentException {
        needIndex(worker, crew.count);
        needArgument(isWithin(what, 0, 4));
        switch (what) {
            case 0: return crew.trust[worker];
            case 1: return crew.runs[worker];
            case 2: return crew.busy[worker];
            case 3: return cache.poisonedOfWorker(worker);
            default: return crew.checks[worker];
        }
    }

    public int mend(int worker, int fault) throws IndexOutOfBoundsException, IllegalArgumentException {
        needIndex(worker, crew.count);
        needArgument(isWithin(fault, 0, MOST_FAULT));
        int before = crew.trust[worker];
        crew.fault[worker] = fault;
        crew.trust[worker] = FIRST_TRUST;
        return before;
    }

    public int team(int quota) throws IllegalArgumentException, IllegalStateException {
        needArgument(isWithin(quota, 0, MOST_QUOTA));
        needState(teams.count < MOST_TEAMS);
        int added = teams.count;
        teams.quota[added] = quota;
        teams.count++;
        return added;
    }

    public int quota(int team, int quota) throws IndexOutOfBoundsException, IllegalArgumentException {
        needIndex(team, teams.count);
        needArgument(isWithin(quota, 0, MOST_QUOTA));
        teams.quota[team] = quota;
        return cache.makeRoom(team, quota);
    }

    public int ofTeam(int team, int what) throws IndexOutOfBoundsException, IllegalArgumentException {
        needIndex(team, teams.count);
        needArgument(isWithin(what, 0, 4));
        switch (what) {
            case 0: return teams.quota[team];
            case 1: return cache.usedBy(team);
            case 2: return teams.saved[team];
            case 3: return teams.builds[team];
            default: return cache.keptOfTeam(team);
        }
    }

    // ---- building

    public int build(int team, int action) throws IndexOutOfBoundsException, IllegalStateException {
        needIndex(team, teams.count);
        needIndex(action, plan.count);
        boolean built = builder.carryOut(team, action);
        needState(built);
        return builder.got.print[action];
    }

    public int check(int check) throws IllegalArgumentException {
        needArgument(isWithin(check, 0, MOST_CHECK));
        int before = builder.checkEvery;
        builder.checkEvery = check;
        return before;
    }

    public int recheck(int entry) throws IndexOutOfBoundsException, IllegalStateException {
        needIndex(entry, cache.count);
        needState(cache.state[entry] == KEPT && !cache.isFull());
        needState(cache.hasInputsOfNow(plan, entry));
        return builder.checkAgain(entry);
    }

    public int ofEntry(int entry, int what) throws IndexOutOfBoundsException, IllegalArgumentException {
        needIndex(entry, cache.count);
        needArgument(isWithin(what, 0, 7));
        switch (what) {
            case 0: return cache.action[entry];
            case 1: return cache.worker[entry];
            case 2: return cache.team[entry];
            case 3: return cache.print[entry];
            case 4: return cache.hits[entry];
            case 5: return cache.state[entry];
            case 6: return cache.worth(entry);
            default: return Long.bitCount(cache.offspring(entry));
        }
    }

    public int from(int entry, int action) throws IndexOutOfBoundsException {
        needIndex(entry, cache.count);
        needIndex(action, plan.count);
        int source = cache.from[entry * MOST_ACTIONS + action];
        needIndex(source, cache.count);
        return source;
    }

    public int many(int what) throws IllegalArgumentException {
        needArgument(isWithin(what, 0, 9));
        switch (what) {
            case 0: return plan.count;
            case 1: return crew.count;
            case 2: return teams.count;
            case 3: return cache.count;
            case 4: return cache.inState(KEPT);
            case 5: return cache.inState(GONE);
            case 6: return cache.inState(POISONED);
            case 7: return cache.allHits();
            case 8: return crew.allRuns();
            default: return cache.wrong;
        }
    }

    public double hitShare() {
        int hits = cache.allHits();
        int all = hits + cache.count;
        return all < 1 ? 0.0 : (double) hits / (double) all;
    }

    // ---- what would be (nothing is changed)

    public int wouldRun(int team, int action) throws IndexOutOfBoundsException {
        needIndex(team, teams.count);
        needIndex(action, plan.count);
        return builder.runsNeeded(team, action);
    }

    public boolean wouldBeWrong(int team, int action) throws IndexOutOfBoundsException {
        needIndex(team, teams.count);
        needIndex(action, plan.count);
        return builder.printWouldDiffer(team, action);
    }

    public int touched(int file) throws IndexOutOfBoundsException {
        needIndex(file, FILES);
        return cache.keptOfActions(plan.actionsTouchedBy(file));
    }

    public int wouldGo(int team, int size) throws IndexOutOfBoundsException, IllegalArgumentException {
        needIndex(team, teams.count);
        needArgument(isWithin(size, 1, MOST_SIZE));
        return builder.goneFor(team, size);
    }

    public long digest() {
        long d = DIGEST_START;
        for (int what = 0; what <= 9; what++) {
            d = d * 31 + many(what);
        }
        for (int action = 0; action < plan.count; action++) {
            for (int what = 0; what <= 7; what++) {
                d = d * 31 + ofAction(action, what);
            }
        }
        for (int worker = 0; worker < crew.count; worker++) {
            for (int what = 0; what <= 4; what++) {
                d = d * 31 + ofWorker(worker, what);
            }
        }
        for (int team = 0; team < teams.count; team++) {
            for (int what = 0; what <= 4; what++) {
                d = d * 31 + ofTeam(team, what);
            }
            for (int action = 0; action < plan.count; action++) {
                d = d * 31 + builder.runsNeeded(team, action);
            }
        }
        for (int entry = 0; entry < cache.count; entry++) {
            for (int what = 0; what <= 7; what++) {
                d = d * 31 + ofEntry(entry, what);
            }
        }
        for (int file = 0; file < FILES; file++) {
            d = d * 31 + touched(file);
        }
        return d;
    }

    private static void needIndex(int index, int count) {
        if (!isIndex(index, count)) {
            throw new IndexOutOfBoundsException("there is no such one");
        }
    }

    private static void needArgument(boolean fine) {
        if (!fine) {
            throw new IllegalArgumentException("an argument is not what it may be");
        }
    }

    private static void needState(boolean fine) {
        if (!fine) {
            throw new IllegalStateException("this can not be done now");
        }
    }

    private static boolean isWithin(int number, int least, int most) {
        return number >= least && number <= most;
    }

    private static boolean isIndex(int index, int count) {
        return isWithin(index, 0, count - 1);
    }

    private static boolean isPartOf(int set, int whole) {
        return (set & ~whole) == 0;
    }

    private static boolean has(long set, int member) {
        return (set >> member & 1) != 0;
    }

    private static int weigh(int set, int[] numbers, int firstWeight) {
        int sum = 0;
        for (int k = 0; k < numbers.length; k++) {
            if (has(set, k)) {
                sum += (k + firstWeight) * numbers[k];
            }
        }
        return sum;
    }

    // FILES, SETTINGS and ACTIONS (section 1).
    private static final class Plan {
        private final int[] contents = new int[FILES];
        private final int[] values = new int[SETTINGS];
        private int count;
        private final int[] files = new int[MOST_ACTIONS];
        private final int[] actions = new int[MOST_ACTIONS];
        private final int[] settings = new int[MOST_ACTIONS];
        private final int[] out = new int[MOST_ACTIONS];
        private final int[] cost = new int[MOST_ACTIONS];
        private final int[] size = new int[MOST_ACTIONS];
        // Made once, so that asking for a PRINT makes no new array.
        private final int[] clean = new int[MOST_ACTIONS];

        int allActions() {
            return (1 << count) - 1;
        }

        int printOf(int action, int[] prints) {
            int sum = 31 * action
                    + 7 * weigh(files[action], contents, 1)
                    + 5 * weigh(actions[action], prints, 2)
                    + 3 * weigh(settings[action], values, 1);
            return sum % PRINTS;
        }

        // An ACTION READS smaller numbers only, so those stand when it is their turn.
        int cleanPrint(int action) {
            for (int a = 0; a <= action; a++) {
                clean[a] = printOf(a, clean);
            }
            return clean[action];
        }

        int neededFor(int action) {
            int needed = 1 << action;
            for (int a = action; a >= 0; a--) {
                if (has(needed, a)) {
                    needed |= actions[a];
                }
            }
            return needed;
        }

        int actionsTouchedBy(int file) {
            int reached = 0;
            for (int a = 0; a < count; a++) {
                if (has(files[a], file) || (actions[a] & reached) != 0) {
                    reached |= 1 << a;
                }
            }
            return reached;
        }
    }

    // WORKERS (section 2).
    private static final class Crew {
        private int count;
        private final int[] fault = new int[MOST_WORKERS];
        private final int[] trust = new int[MOST_WORKERS];
        private final int[] runs = new int[MOST_WORKERS];
        private final int[] busy = new int[MOST_WORKERS];
        private final int[] checks = new int[MOST_WORKERS];

        int choose(int except) {
            int best = NONE;
            for (int w = 0; w < count; w++) {
                if (w != except && trust[w] >= LEAST_TRUST_TO_RUN && (best == NONE || isBetter(w, best))) {
                    best = w;
                }
            }
            return best;
        }

        private boolean isBetter(int one, int other) {
            return trust[one] > trust[other] || trust[one] == trust[other] && busy[one] < busy[other];
        }

        int runOnce(int worker, int cost, int cleanPrint) {
            runs[worker]++;
            busy[worker] += cost;
            boolean fails = fault[worker] > 0 && runs[worker] % fault[worker] == 0;
            return fails ? (cleanPrint + 1) % PRINTS : cleanPrint;
        }

        void changeTrust(int worker, int change) {
            if (isIndex(worker, count)) {
                trust[worker] = Math.max(0, Math.min(MOST_TRUST, trust[worker] + change));
            }
        }

        int allRuns() {
            int sum = 0;
            for (int w = 0; w < count; w++) {
                sum += runs[w];
            }
            return sum;
        }
    }

    private static final class Teams {
        private int count;
        private final int[] quota = new int[MOST_TEAMS];
        private final int[] saved = new int[MOST_TEAMS];
        private final int[] builds = new int[MOST_TEAMS];
    }

    // What a BUILD (or a CHECK) has got so far, by the number of the ACTION.
    private static final class Got {
        private final int[] print = new int[MOST_ACTIONS];
        private final int[] entry = new int[MOST_ACTIONS];
    }

    // ENTRIES (sections 3 and 6).
    private static final class Cache {
        private int count;
        private int wrong;
        private final int[] action = new int[MOST_ENTRIES];
        private final int[] worker = new int[MOST_ENTRIES];
        private final int[] team = new int[MOST_ENTRIES];
        private final int[] print = new int[MOST_ENTRIES];
        private final int[] hits = new int[MOST_ENTRIES];
        private final int[] state = new int[MOST_ENTRIES];
        private final int[] cost = new int[MOST_ENTRIES];
        private final int[] size = new int[MOST_ENTRIES];
        // All FILES and SETTINGS as they were then; which of them are of the KEY, the ACTION tells.
        private final int[] contents = new int[MOST_ENTRIES * FILES];
        private final int[] values = new int[MOST_ENTRIES * SETTINGS];
        private final int[] prints = new int[MOST_ENTRIES * MOST_ACTIONS];
        private final int[] from = new int[MOST_ENTRIES * MOST_ACTIONS];
        private final long[] fromSet = new long[MOST_ENTRIES];

        boolean isFull() {
            return count >= MOST_ENTRIES;
        }

        int firstHit(Plan plan, Got got, int wanted) {
            for (int e = 0; e < count; e++) {
                if (action[e] == wanted && state[e] == KEPT
                        && hasInputsOfNow(plan, e) && hasPrints(plan.actions[wanted], got, e)) {
                    return e;
                }
            }
            return NONE;
        }

        // Asked of KEPT ENTRIES only: those were made with what is LEFT OUT now,
        // as all ENTRIES of an ACTION go when that changes.
        boolean hasInputsOfNow(Plan plan, int entry) {
            int a = action[entry];
            if (!isIndex(a, plan.count)) {
                return false;
            }
            for (int f = 0; f < FILES; f++) {
                if (has(plan.files[a], f) && contents[entry * FILES + f] != plan.contents[f]) {
                    return false;
                }
            }
            return (changedSettings(plan, entry) & plan.settings[a] & ~plan.out[a]) == 0;
        }

        int changedSettings(Plan plan, int entry) {
            int changed = 0;
            for (int s = 0; s < SETTINGS; s++) {
                if (values[entry * SETTINGS + s] != plan.values[s]) {
                    changed |= 1 << s;
                }
            }
            return changed;
        }

        private boolean hasPrints(int actions, Got got, int entry) {
            for (int a = 0; a < MOST_ACTIONS; a++) {
                if (has(actions, a) && prints[entry * MOST_ACTIONS + a] != got.print[a]) {
                    return false;
                }
            }
            return true;
        }

        int add(Plan plan, Got got, int made) {
            int added = count;
            action[added] = made;
            cost[added] = plan.cost[made];
            size[added] = plan.size[made];
            hits[added] = 0;
            fromSet[added] = 0;
            System.arraycopy(plan.contents, 0, contents, added * FILES, FILES);
            System.arraycopy(plan.values, 0, values, added * SETTINGS, SETTINGS);
            for (int a = 0; a < MOST_ACTIONS; a++) {
                boolean reads = has(plan.actions[made], a);
                prints[added * MOST_ACTIONS + a] = reads ? got.print[a] : NONE;
                from[added * MOST_ACTIONS + a] = reads ? got.entry[a] : NONE;
                fromSet[added] |= reads ? 1L << got.entry[a] : 0;
            }
            count++;
            return added;
        }

        // An ENTRY is from smaller numbers only, so one pass upwards finds all.
        long offspring(int entry) {
            long family = 1L << entry;
            for (int e = entry + 1; e < count; e++) {
                if ((fromSet[e] & family) != 0) {
                    family |= 1L << e;
                }
            }
            return family & ~(1L << entry);
        }

        void poison(int entry) {
            long spoiled = offspring(entry) | 1L << entry;
            for (int e = entry; e < count; e++) {
                if (has(spoiled, e)) {
                    state[e] = POISONED;
                }
            }
        }

        void dropAllOf(int dropped) {
            for (int e = 0; e < count; e++) {
                if (action[e] == dropped && state[e] == KEPT) {
                    state[e] = GONE;
                }
            }
        }

        int makeRoom(int owner, int room) {
            int gone = 0;
            while (gone < MOST_ENTRIES && usedBy(owner) > room) {
                int least = leastWorth(owner);
                if (least == NONE) {
                    return gone;
                }
                state[least] = GONE;
                gone++;
            }
            return gone;
        }

        private int leastWorth(int owner) {
            int least = NONE;
            for (int e = 0; e < count; e++) {
                if (isKeptBy(e, owner) && (least == NONE || worth(e) < worth(least))) {
                    least = e;
                }
            }
            return least;
        }

        int worth(int entry) {
            return size[entry] < 1 ? 0 : cost[entry] * (hits[entry] + 1) * 10 / size[entry];
        }

        private boolean isKeptBy(int entry, int owner) {
            return team[entry] == owner && state[entry] == KEPT;
        }

        int usedBy(int owner) {
            int sum = 0;
            for (int e = 0; e < count; e++) {
                sum += isKeptBy(e, owner) ? size[e] : 0;
            }
            return sum;
        }

        int keptOfTeam(int owner) {
            int number = 0;
            for (int e = 0; e < count; e++) {
                number += isKeptBy(e, owner) ? 1 : 0;
            }
            return number;
        }

        int keptOfActions(int actions) {
            int number = 0;
            for (int e = 0; e < count; e++) {
                number += state[e] == KEPT && has(actions, action[e]) ? 1 : 0;
            }
            return number;
        }

        int poisonedOfWorker(int maker) {
            int number = 0;
            for (int e = 0; e < count; e++) {
                number += state[e] == POISONED && worker[e] == maker ? 1 : 0;
            }
            return number;
        }

        int inState(int wanted) {
            int number = 0;
            for (int e = 0; e < count; e++) {
                number += state[e] == wanted ? 1 : 0;
            }
            return number;
        }

        int allHits() {
            int sum = 0;
            for (int e = 0; e < count; e++) {
                sum += hits[e];
            }
            return sum;
        }
    }

    // All that a BUILD may change of what was there ahead of it. Of the ENTRIES that it adds
    // nothing has to be put back: they are behind the count, and are written anew.
    private static final class Snapshot {
        private final int[] out = new int[MOST_ACTIONS];
        private final int[] trust = new int[MOST_WORKERS];
        private final int[] runs = new int[MOST_WORKERS];
        private final int[] busy = new int[MOST_WORKERS];
        private final int[] checks = new int[MOST_WORKERS];
        private final int[] saved = new int[MOST_TEAMS];
        private final int[] hits = new int[MOST_ENTRIES];
        private final int[] state = new int[MOST_ENTRIES];
        private int count;
        private int wrong;

        void take(Plan plan, Crew crew, Teams teams, Cache cache) {
            System.arraycopy(plan.out, 0, out, 0, MOST_ACTIONS);
            System.arraycopy(crew.trust, 0, trust, 0, MOST_WORKERS);
            System.arraycopy(crew.runs, 0, runs, 0, MOST_WORKERS);
            System.arraycopy(crew.busy, 0, busy, 0, MOST_WORKERS);
            System.arraycopy(crew.checks, 0, checks, 0, MOST_WORKERS);
            System.arraycopy(teams.saved, 0, saved, 0, MOST_TEAMS);
            System.arraycopy(cache.hits, 0, hits, 0, MOST_ENTRIES);
            System.arraycopy(cache.state, 0, state, 0, MOST_ENTRIES);
            count = cache.count;
            wrong = cache.wrong;
        }

        void putBack(Plan plan, Crew crew, Teams teams, Cache cache) {
            System.arraycopy(out, 0, plan.out, 0, MOST_ACTIONS);
            System.arraycopy(trust, 0, crew.trust, 0, MOST_WORKERS);
            System.arraycopy(runs, 0, crew.runs, 0, MOST_WORKERS);
            System.arraycopy(busy, 0, crew.busy, 0, MOST_WORKERS);
            System.arraycopy(checks, 0, crew.checks, 0, MOST_WORKERS);
            System.arraycopy(saved, 0, teams.saved, 0, MOST_TEAMS);
            System.arraycopy(hits, 0, cache.hits, 0, MOST_ENTRIES);
            System.arraycopy(state, 0, cache.state, 0, MOST_ENTRIES);
            cache.count = count;
            cache.wrong = wrong;
        }
    }

    // To BUILD and to CHECK (sections 4 and 5).
    private static final class Builder {
        private final Plan plan = new Plan();
        private final Crew crew = new Crew();
        private final Teams teams = new Teams();
        private final Cache cache = new Cache();
        private final Got got = new Got();
        private final Snapshot before = new Snapshot();
        private int checkEvery;
        // The last RUN that was to CHECK: a new ENTRY is made of it, if the old one was WRONG.
        private int checker;
        private int checkedPrint;

        boolean carryOut(int team, int action) {
            before.take(plan, crew, teams, cache);
            boolean built = attempt(team, action);
            if (built) {
                teams.builds[team]++;
            } else {
                before.putBack(plan, crew, teams, cache);
            }
            return built;
        }

        int runsNeeded(int team, int action) {
            before.take(plan, crew, teams, cache);
            int runsBefore = crew.allRuns();
            int runs = attempt(team, action) ? crew.allRuns() - runsBefore : NONE;
            before.putBack(plan, crew, teams, cache);
            return runs;
        }

        boolean printWouldDiffer(int team, int action) {
            before.take(plan, crew, teams, cache);
            boolean differs = attempt(team, action) && got.print[action] != plan.cleanPrint(action);
            before.putBack(plan, crew, teams, cache);
            return differs;
        }

        int goneFor(int team, int size) {
            int room = teams.quota[team] - size;
            if (room < 0) {
                return 0;
            }
            before.take(plan, crew, teams, cache);
            int gone = cache.makeRoom(team, room);
            before.putBack(plan, crew, teams, cache);
            return gone;
        }

        // Leaves things half done where it answers false: the caller puts them back.
        private boolean attempt(int team, int action) {
            int needed = plan.neededFor(action);
            for (int a = 0; a <= action; a++) {
                if (has(needed, a) && !obtain(team, a)) {
                    return false;
                }
            }
            return true;
        }

        private boolean obtain(int team, int action) {
            int hit = cache.firstHit(plan, got, action);
            if (hit == NONE) {
                int worker = crew.choose(NONE);
                if (worker == NONE) {
                    return false;
                }
                int print = crew.runOnce(worker, plan.cost[action], plan.printOf(action, got.print));
                return enter(team, action, worker, print);
            }
            cache.hits[hit]++;
            teams.saved[team] += plan.cost[action];
            if (isCheckDue() && compareWithRun(hit, action) == WRONG) {
                return enter(team, action, checker, checkedPrint);
            }
            got.print[action] = cache.print[hit];
            got.entry[action] = hit;
            return true;
        }

        private boolean isCheckDue() {
            return checkEvery > 0 && cache.allHits() % checkEvery == 0;
        }

        private boolean enter(int team, int action, int worker, int print) {
            if (cache.isFull() || !isIndex(team, teams.count)) {
                return false;
            }
            int room = teams.quota[team] - plan.size[action];
            if (room >= 0) {
                cache.makeRoom(team, room);
            }
            int entry = cache.add(plan, got, action);
            cache.worker[entry] = worker;
            cache.team[entry] = team;
            cache.print[entry] = print;
            cache.state[entry] = room >= 0 ? KEPT : GONE;
            got.print[action] = print;
            got.entry[action] = entry;
            return true;
        }

        // The caller has seen by hasInputsOfNow that the ACTION of the ENTRY is there.
        int checkAgain(int entry) {
            int action = cache.action[entry];
            for (int a = 0; a < MOST_ACTIONS; a++) {
                got.print[a] = cache.prints[entry * MOST_ACTIONS + a];
                got.entry[a] = cache.from[entry * MOST_ACTIONS + a];
            }
            int outcome = compareWithRun(entry, action);
            if (outcome == WRONG) {
                enter(cache.team[entry], action, checker, checkedPrint);
            }
            return outcome;
        }

        // The new ENTRY of a WRONG one is left to the caller, who knows for which TEAM it is.
        private int compareWithRun(int entry, int action) {
            int maker = cache.worker[entry];
            checker = crew.choose(maker);
            if (checker == NONE) {
                return UNCHECKED;
            }
            checkedPrint = crew.runOnce(checker, plan.cost[action], plan.printOf(action, got.print));
            crew.checks[checker]++;
            if (checkedPrint == cache.print[entry]) {
                crew.changeTrust(maker, TRUST_FOR_SAME);
                return SAME;
            }
            cache.wrong++;
            int toBlame = cache.changedSettings(plan, entry) & plan.out[action];
            if (toBlame != 0) {
                plan.out[action] &= ~toBlame;
                cache.dropAllOf(action);
            } else {
                crew.changeTrust(maker, TRUST_FOR_WRONG);
            }
            cache.poison(entry);
            return WRONG;
        }
    }
}
