/** Promises 6 to 11: workers (section 2) and teams (section 6). */
final class WorkersAndTeamsTest {
    private static final Due DUE = new Due();

    public static void main(String[] args) {
        workersAreNumbered();
        workerRefuses();
        theTrustedTheIdleTheFirstIsChosen();
        trustGoesAheadOfBusy();
        aTrustOf20IsEnough();
        aTrustOf15IsNot();
        eachNthRunFails();
        aFailedPrintBehind996Is0();
        trustHasItsEnds();
        ofWorkerTellsAll();
        ofWorkerRefuses();
        mendSetsFaultAndTrust();
        mendGoesOnCountingRuns();
        mendRefuses();
        teamsAreNumbered();
        teamRefuses();
        quotaLetsTheLeastWorthGo();
        ofEqualWorthTheFirstGoes();
        quotaLeavesOtherTeams();
        quotaRefuses();
        ofTeamTellsAll();
        ofTeamRefuses();
        DUE.end();
    }

    /** With n ACTIONS that READ the FILES of their numbers alone, of the COST and the SIZE given. */
    private static CachehallDesk plain(int actions, int cost, int size) {
        CachehallDesk x = new CachehallDesk();
        for (int n = 0; n < actions; n++) {
            x.action(1 << n, 0, 0, 0, cost, size);
        }
        return x;
    }

    private static void workersAreNumbered() {
        CachehallDesk x = new CachehallDesk();
        int[] faults = {0, 9, 1, 0};
        for (int n = 0; n < 4; n++) {
            DUE.is(n, x.worker(faults[n]));
            DUE.is(n + 1, x.many(1));
            DUE.is(50, x.ofWorker(n, 0));
            for (int what = 1; what <= 4; what++) {
                DUE.is(0, x.ofWorker(n, what));
            }
        }
    }

    private static void workerRefuses() {
        CachehallDesk x = new CachehallDesk();
        int[] bad = {-1, 10, Integer.MIN_VALUE, Integer.MAX_VALUE};
        for (int fault : bad) {
            DUE.refuses(Due.ARGUMENT, () -> x.worker(fault));
        }
        DUE.is(0, x.many(1));
        for (int n = 0; n < 4; n++) {
            x.worker(0);
        }
        DUE.refuses(Due.STATE, () -> x.worker(0));
        DUE.refuses(Due.STATE, () -> x.worker(9));
        DUE.refuses(Due.ARGUMENT, () -> x.worker(10));
        DUE.is(4, x.many(1));
    }

    private static void theTrustedTheIdleTheFirstIsChosen() {
        CachehallDesk x = plain(2, 7, 1);
        x.action(4, 0, 0, 0, 3, 1);
        x.worker(0);
        x.worker(0);
        x.worker(0);
        x.team(100);
        int[] actions = {2, 0, 1, 0, 2, 2};
        // BUSY ahead of each: 0 0 0, 3 0 0, 3 7 0, 3 7 7, 10 7 7, 10 10 7
        int[] due = {0, 1, 2, 0, 1, 2};
        for (int n = 0; n < actions.length; n++) {
            x.file(actions[n], n);
            x.build(0, actions[n]);
            DUE.is(due[n], x.ofEntry(n, 1));
        }
        DUE.is(10, x.ofWorker(0, 2));
        DUE.is(10, x.ofWorker(1, 2));
        DUE.is(10, x.ofWorker(2, 2));
    }

    private static void trustGoesAheadOfBusy() {
        CachehallDesk x = plain(3, 9, 1);
        x.worker(0);
        x.worker(0);
        x.team(100);
        x.build(0, 0);
        DUE.is(1, x.recheck(0));
        DUE.is(55, x.ofWorker(0, 0));
        x.build(0, 1);
        x.build(0, 2);
        // BUSY with 18 and then 27 of 9, but with more TRUST
        DUE.is(0, x.ofEntry(1, 1));
        DUE.is(0, x.ofEntry(2, 1));
    }

    private static void aTrustOf20IsEnough() {
        // What is made with the FAULT is WRONG as the other runs it anew.
        CachehallDesk x = plain(8, 1, 1);
        x.worker(1);
        x.team(100);
        x.build(0, 0);
        x.worker(0);
        DUE.is(2, x.recheck(0));
        DUE.is(20, x.ofWorker(0, 0));
        x.mend(1, 0);
        // ENTRY 1 is of WORKER 1: WORKER 0, with 20, is the only one that can CHECK it.
        DUE.is(2, x.recheck(1));
        DUE.is(20, x.ofWorker(1, 0));
        // ENTRY 2 is of WORKER 0 and WRONG for WORKER 1.
        DUE.is(2, x.recheck(2));
        DUE.is(0, x.ofWorker(0, 0));
        DUE.is(0, x.recheck(3));
        DUE.is(20, x.ofWorker(1, 0));
    }

    private static void aTrustOf15IsNot() {
        // A WORKER with 15: 50, and 25 more, and twice 30 less.
        CachehallDesk x = plain(8, 1, 1);
        x.worker(0);
        x.team(100);
        x.build(0, 0);
        x.build(0, 1);
        x.worker(0);
        for (int n = 0; n < 5; n++) {
            x.recheck(0);
        }
        x.mend(1, 1);
        x.recheck(0);
        DUE.is(45, x.ofWorker(0, 0));
        DUE.is(2, x.recheck(1));
        DUE.is(15, x.ofWorker(0, 0));
        // Both new ENTRIES are of WORKER 1: with 20 WORKER 0 could CHECK them.
        DUE.is(0, x.recheck(2));
        DUE.is(0, x.recheck(3));
        x.mend(0, 0);
        DUE.is(2, x.recheck(2));
    }

    private static void eachNthRunFails() {
        CachehallDesk x = plain(1, 1, 1);
        x.worker(3);
        x.team(100);
        for (int n = 1; n <= 12; n++) {
            x.file(0, n);
            int fault = n % 3 == 0 ? 1 : 0;
            DUE.is(7 * n + fault, x.build(0, 0));
            DUE.is(7 * n, x.ofAction(0, 6));
        }
        CachehallDesk y = plain(1, 1, 1);
        y.worker(1);
        y.team(100);
        for (int n = 1; n <= 5; n++) {
            y.file(0, n);
            DUE.is(7 * n + 1, y.build(0, 0));
        }
    }

    private static void aFailedPrintBehind996Is0() {
        CachehallDesk x = new CachehallDesk();
        x.action(3, 0, 1, 0, 1, 1);
        x.worker(1);
        x.team(100);
        x.file(0, 99);
        x.file(1, 21);
        x.set(0, 3);
        // 7 * (99 + 2 * 21) + 3 * 3
        DUE.is(996, x.ofAction(0, 6));
        DUE.is(0, x.build(0, 0));
    }

    private static void trustHasItsEnds() {
        CachehallDesk x = plain(1, 1, 1);
        x.worker(0);
        x.team(100);
        x.build(0, 0);
        x.worker(0);
        for (int n = 1; n <= 12; n++) {
            DUE.is(1, x.recheck(0));
            DUE.is(Math.min(100, 50 + 5 * n), x.ofWorker(0, 0));
        }
    }

    private static void ofWorkerTellsAll() {
        CachehallDesk x = plain(1, 7, 1);
        x.action(0, 1, 0, 0, 11, 1);
        x.worker(1);
        x.team(100);
        x.build(0, 1);
        x.worker(0);
        DUE.is(2, x.recheck(0));
        // What came of ENTRY 0 is POISONED with it: both are of WORKER 0.
        int[] due0 = {20, 2, 18, 2, 0};
        int[] due1 = {50, 1, 7, 0, 1};
        for (int what = 0; what <= 4; what++) {
            DUE.is(due0[what], x.ofWorker(0, what));
            DUE.is(due1[what], x.ofWorker(1, what));
        }
    }

    private static void ofWorkerRefuses() {
        CachehallDesk x = new CachehallDesk();
        x.worker(0);
        for (int what = 0; what <= 4; what++) {
            int asked = what;
            DUE.refuses(Due.INDEX, () -> x.ofWorker(1, asked));
            DUE.refuses(Due.INDEX, () -> x.ofWorker(-1, asked));
        }
        DUE.refuses(Due.INDEX, () -> x.ofWorker(4, 0));
        DUE.refuses(Due.INDEX, () -> x.ofWorker(Integer.MIN_VALUE, 0));
        DUE.refuses(Due.ARGUMENT, () -> x.ofWorker(0, -1));
        DUE.refuses(Due.ARGUMENT, () -> x.ofWorker(0, 5));
        DUE.refuses(Due.INDEX, () -> x.ofWorker(1, 5));
    }

    private static void mendSetsFaultAndTrust() {
        CachehallDesk x = plain(2, 1, 1);
        x.worker(1);
        x.team(100);
        x.build(0, 0);
        x.worker(0);
        x.recheck(0);
        DUE.is(20, x.mend(0, 0));
        DUE.is(50, x.ofWorker(0, 0));
        DUE.is(50, x.mend(0, 9));
        DUE.is(50, x.mend(0, 0));
        DUE.is(1, x.recheck(1));
        DUE.is(55, x.mend(1, 1));
        DUE.is(50, x.ofWorker(1, 0));
        // The POISONED ENTRY and the RUNS stay as they are.
        DUE.is(1, x.ofWorker(0, 3));
        DUE.is(2, x.ofWorker(0, 1));
    }

    private static void mendGoesOnCountingRuns() {
        CachehallDesk x = plain(1, 1, 1);
        x.worker(0);
        x.team(100);
        x.build(0, 0);
        x.file(0, 1);
        x.build(0, 0);
        x.mend(0, 3);
        x.file(0, 2);
        // the third of all its RUNS, the first with that FAULT
        DUE.is(15, x.build(0, 0));
        x.mend(0, 0);
        for (int n = 3; n < 9; n++) {
            x.file(0, n);
            DUE.is(7 * n, x.build(0, 0));
        }
    }

    private static void mendRefuses() {
        CachehallDesk x = plain(1, 1, 1);
        x.worker(0);
        x.team(100);
        DUE.refuses(Due.INDEX, () -> x.mend(1, 0));
        DUE.refuses(Due.INDEX, () -> x.mend(-1, 0));
        DUE.refuses(Due.INDEX, () -> x.mend(Integer.MAX_VALUE, 0));
        DUE.refuses(Due.ARGUMENT, () -> x.mend(0, -1));
        DUE.refuses(Due.ARGUMENT, () -> x.mend(0, 10));
        DUE.refuses(Due.INDEX, () -> x.mend(1, 10));
        DUE.is(0, x.build(0, 0));
        x.worker(0);
        x.recheck(0);
        DUE.refuses(Due.ARGUMENT, () -> x.mend(0, 10));
        DUE.is(55, x.ofWorker(0, 0));
    }

    private static void teamsAreNumbered() {
        CachehallDesk x = new CachehallDesk();
        int[] quotas = {0, 100, 50, 1};
        for (int n = 0; n < 4; n++) {
            DUE.is(n, x.team(quotas[n]));
            DUE.is(n + 1, x.many(2));
            DUE.is(quotas[n], x.ofTeam(n, 0));
            for (int what = 1; what <= 4; what++) {
                DUE.is(0, x.ofTeam(n, what));
            }
        }
    }

    private static void teamRefuses() {
        CachehallDesk x = new CachehallDesk();
        int[] bad = {-1, 101, Integer.MIN_VALUE, Integer.MAX_VALUE};
        for (int quota : bad) {
            DUE.refuses(Due.ARGUMENT, () -> x.team(quota));
        }
        DUE.is(0, x.many(2));
        for (int n = 0; n < 4; n++) {
            x.team(n);
        }
        DUE.refuses(Due.STATE, () -> x.team(0));
        DUE.refuses(Due.STATE, () -> x.team(100));
        DUE.refuses(Due.ARGUMENT, () -> x.team(101));
        DUE.is(4, x.many(2));
    }

    private static void quotaLetsTheLeastWorthGo() {
        CachehallDesk x = new CachehallDesk();
        x.action(1, 0, 0, 0, 10, 5);
        x.action(2, 0, 0, 0, 10, 4);
        x.action(4, 0, 0, 0, 7, 3);
        x.worker(0);
        x.team(12);
        for (int action = 0; action < 3; action++) {
            x.build(0, action);
        }
        // WORTH 20, 25, 23
        DUE.is(12, x.ofTeam(0, 1));
        DUE.is(0, x.quota(0, 12));
        DUE.is(0, x.quota(0, 100));
        DUE.is(1, x.quota(0, 11));
        DUE.is(1, x.ofEntry(0, 5));
        DUE.is(7, x.ofTeam(0, 1));
        x.build(0, 2);
        // WORTH 25 and 46
        DUE.is(0, x.quota(0, 7));
        DUE.is(1, x.quota(0, 6));
        DUE.is(1, x.ofEntry(1, 5));
        DUE.is(0, x.ofEntry(2, 5));
        DUE.is(0, x.quota(0, 3));
        DUE.is(1, x.quota(0, 0));
        DUE.is(0, x.ofTeam(0, 0));
        DUE.is(0, x.quota(0, 0));
        DUE.is(0, x.ofTeam(0, 4));
    }

    private static void ofEqualWorthTheFirstGoes() {
        CachehallDesk x = plain(5, 3, 2);
        x.worker(0);
        x.team(10);
        for (int action = 4; action >= 0; action--) {
            x.build(0, action);
        }
        DUE.is(2, x.quota(0, 7));
        for (int entry = 0; entry < 5; entry++) {
            DUE.is(entry < 2 ? 1 : 0, x.ofEntry(entry, 5));
        }
    }

    private static void quotaLeavesOtherTeams() {
        CachehallDesk x = plain(4, 3, 10);
        x.worker(0);
        x.team(100);
        x.team(100);
        x.build(0, 0);
        x.build(1, 1);
        x.build(1, 2);
        x.build(0, 3);
        DUE.is(2, x.quota(0, 9));
        DUE.is(1, x.ofEntry(0, 5));
        DUE.is(0, x.ofEntry(1, 5));
        DUE.is(0, x.ofEntry(2, 5));
        DUE.is(1, x.ofEntry(3, 5));
        DUE.is(20, x.ofTeam(1, 1));
        DUE.is(100, x.ofTeam(1, 0));
    }

    private static void quotaRefuses() {
        CachehallDesk x = plain(1, 3, 10);
        x.worker(0);
        x.team(50);
        x.build(0, 0);
        DUE.refuses(Due.INDEX, () -> x.quota(1, 0));
        DUE.refuses(Due.INDEX, () -> x.quota(-1, 0));
        DUE.refuses(Due.INDEX, () -> x.quota(Integer.MIN_VALUE, 0));
        DUE.refuses(Due.ARGUMENT, () -> x.quota(0, -1));
        DUE.refuses(Due.ARGUMENT, () -> x.quota(0, 101));
        DUE.refuses(Due.INDEX, () -> x.quota(1, 101));
        DUE.is(50, x.ofTeam(0, 0));
        DUE.is(1, x.ofTeam(0, 4));
    }

    private static void ofTeamTellsAll() {
        CachehallDesk x = plain(1, 7, 3);
        x.action(0, 1, 0, 0, 11, 4);
        x.worker(0);
        x.team(50);
        x.team(5);
        x.build(0, 1);
        x.build(0, 1);
        // The HITS are what another TEAM made: SAVED goes to the TEAM that BUILDS.
        x.build(1, 1);
        x.build(1, 0);
        x.file(0, 1);
        x.build(1, 1);
        int[] due0 = {50, 7, 18, 2, 2};
        int[] due1 = {5, 4, 25, 3, 1};
        for (int what = 0; what <= 4; what++) {
            DUE.is(due0[what], x.ofTeam(0, what));
            DUE.is(due1[what], x.ofTeam(1, what));
        }
    }

    private static void ofTeamRefuses() {
        CachehallDesk x = new CachehallDesk();
        x.team(0);
        for (int what = 0; what <= 4; what++) {
            int asked = what;
            DUE.refuses(Due.INDEX, () -> x.ofTeam(1, asked));
            DUE.refuses(Due.INDEX, () -> x.ofTeam(-1, asked));
        }
        DUE.refuses(Due.INDEX, () -> x.ofTeam(4, 0));
        DUE.refuses(Due.INDEX, () -> x.ofTeam(Integer.MAX_VALUE, 0));
        DUE.refuses(Due.ARGUMENT, () -> x.ofTeam(0, -1));
        DUE.refuses(Due.ARGUMENT, () -> x.ofTeam(0, 5));
        DUE.refuses(Due.INDEX, () -> x.ofTeam(1, 5));
    }
}
