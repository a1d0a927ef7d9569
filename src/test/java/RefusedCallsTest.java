import java.util.ArrayList;
import java.util.List;
import java.util.function.Function;
import java.util.function.Supplier;

/**
 * "A method that throws an exception changes nothing. If several exceptions apply, the one that is named
 * first is thrown." For each method that throws, and each of its exceptions: an object at which a call
 * was refused goes on just as one at which it was never tried.
 */
final class RefusedCallsTest {
    private static final Due DUE = new Due();

    private static final int MIN = Integer.MIN_VALUE;
    private static final int MAX = Integer.MAX_VALUE;

    public static void main(String[] args) {
        theHallsAreWhatTheyAreFor();
        whatIsBuiltChangesNothing();
        workersAndTeamsChangeNothing();
        buildingChangesNothing();
        whatWouldBeChangesNothing();
        aBuildThatCanNotBeDoneChangesNothing();
        aRecheckThatIsRefusedChangesNothing();
        ofActionsArgumentsAheadOfTheState();
        ofWorkersAndTeamsArgumentsAheadOfTheState();
        anIndexAheadOfAnArgument();
        anIndexAheadOfTheState();
        askingChangesNothing();
        DUE.end();
    }

    /** 5 ACTIONS, 2 WORKERS, 2 TEAMS, with ENTRIES that are KEPT, have GONE, and are POISONED. */
    private static CachehallDesk middling() {
        CachehallDesk x = new CachehallDesk();
        x.action(3, 0, 1, 0, 10, 4);
        x.action(4, 1, 2, 2, 20, 6);
        x.action(8, 3, 4, 0, 30, 8);
        x.action(0, 4, 8, 8, 5, 1);
        x.action(16, 0, 48, 32, 7, 20);
        x.worker(3);
        x.worker(0);
        x.team(30);
        x.team(12);
        x.file(0, 10);
        x.set(1, 5);
        x.check(3);
        x.build(0, 3);
        x.build(1, 3);
        x.set(1, 6);
        x.build(1, 4);
        x.build(0, 3);
        return x;
    }

    /** As many ACTIONS, WORKERS and TEAMS as there can be. */
    private static CachehallDesk full() {
        CachehallDesk x = new CachehallDesk();
        for (int n = 0; n < 14; n++) {
            x.action(1 << n % 8, (1 << n) - 1, 3, 1, 1 + n, 2);
        }
        for (int n = 0; n < 4; n++) {
            x.worker(2 * n);
            x.team(20 * n);
        }
        x.build(3, 13);
        return x;
    }

    /**
     * 59 or 60 ENTRIES; ACTION 1 READS ACTION 0 and is an ENTRY, ACTION 2 READS both and is none. There
     * were HITS and CHECKS, one of them of a WRONG one, and the next HIT but one is CHECKED.
     */
    private static CachehallDesk with(int entries) {
        CachehallDesk x = new CachehallDesk();
        x.action(1, 0, 1, 1, 3, 2);
        x.action(0, 1, 2, 2, 5, 3);
        x.action(4, 3, 0, 0, 7, 2);
        x.worker(0);
        x.team(100);
        x.team(50);
        x.file(0, 99);
        x.build(0, 0);
        x.worker(1);
        x.recheck(0);
        x.mend(1, 0);
        x.mend(0, 0);
        x.file(0, 0);
        x.build(0, 1);
        x.build(0, 1);
        x.build(1, 1);
        x.recheck(2);
        for (int n = 1; x.many(3) < entries; n++) {
            x.file(0, n);
            x.build(0, 0);
        }
        x.check(2);
        return x;
    }

    private static CachehallDesk withoutWorkers() {
        CachehallDesk x = new CachehallDesk();
        x.action(1, 0, 1, 1, 3, 2);
        x.team(10);
        return x;
    }

    private static void theHallsAreWhatTheyAreFor() {
        CachehallDesk x = middling();
        for (int what = 3; what <= 9; what++) {
            DUE.is(true, x.many(what) > 0);
        }
        DUE.is(14, full().many(0));
        for (int entries = 59; entries <= 60; entries++) {
            CachehallDesk y = with(entries);
            int[] due = {3, 2, 2, entries, y.many(4), y.many(5), 1, 4, entries + 1, 1};
            for (int what = 0; what <= 9; what++) {
                DUE.is(due[what], y.many(what));
            }
            DUE.is(true, y.many(4) > 40 && y.many(5) > 3);
        }
    }

    /** All that can be seen of an object, and of what it does as it goes on. */
    private static List<Object> story(CachehallDesk x) {
        List<Object> told = new ArrayList<>();
        told.add(x.digest());
        told.add(x.hitShare());
        for (int entry = 0; entry < 12; entry++) {
            for (int action = 0; action < 4; action++) {
                tell(told, x, entry, action, CachehallDesk::from);
            }
        }
        for (int check = 2; check >= 0; check--) {
            goOn(told, x);
            told.add(x.check(check));
        }
        for (int file = 0; file <= 7; file++) {
            told.add(x.file(file, 20 + file));
        }
        for (int setting = 0; setting <= 5; setting++) {
            told.add(x.set(setting, 1 + setting));
        }
        goOn(told, x);
        tell(told, x, 1, 0, (y, a, b) -> y.action(a, b, 1, 1, 1, 1));
        tell(told, x, 0, 0, (y, a, b) -> y.worker(a));
        tell(told, x, 9, 0, (y, a, b) -> y.team(a));
        told.add(x.digest());
        return told;
    }

    private static void goOn(List<Object> told, CachehallDesk x) {
        for (int action = 0; action < 5; action++) {
            tell(told, x, 0, action, CachehallDesk::build);
            tell(told, x, action, 0, (y, a, b) -> y.recheck(a));
        }
        tell(told, x, 1, 3, CachehallDesk::build);
        tell(told, x, 0, 30, CachehallDesk::quota);
        told.add(x.digest());
    }

    private interface Two {
        Object answer(CachehallDesk x, int a, int b);
    }

    private static void tell(List<Object> told, CachehallDesk x, int a, int b, Two call) {
        try {
            told.add(call.answer(x, a, b));
        } catch (RuntimeException e) {
            told.add(e.getClass());
        }
    }

    /** The call is refused with that exception, again and again, and leaves no trace. */
    private static void leavesNoTrace(Class<? extends RuntimeException> kind, Supplier<CachehallDesk> made,
            Function<CachehallDesk, Object> call) {
        CachehallDesk x = made.get();
        CachehallDesk y = made.get();
        DUE.refuses(kind, () -> call.apply(x));
        DUE.is(y.digest(), x.digest());
        DUE.refuses(kind, () -> call.apply(x));
        DUE.refuses(kind, () -> call.apply(x));
        DUE.is(story(y), story(x));
    }

    // ---- A method that throws an exception changes nothing

    /** action, file, set, ofAction */
    private static void whatIsBuiltChangesNothing() {
        int[][] badActions = {{-1, 0, 0, 0, 1, 1}, {256, 0, 0, 0, 1, 1}, {1, 32, 0, 0, 1, 1}, {1, -1, 0, 0, 1, 1},
            {1, 0, 64, 0, 1, 1}, {1, 0, -1, 0, 1, 1}, {1, 0, 2, 1, 1, 1}, {1, 0, 2, -1, 1, 1}, {1, 1, 1, 1, 0, 1},
            {1, 1, 1, 1, 51, 1}, {1, 1, 1, 1, 1, 0}, {1, 1, 1, 1, 1, 21}};
        for (int[] bad : badActions) {
            leavesNoTrace(Due.ARGUMENT, RefusedCallsTest::middling,
                    x -> x.action(bad[0], bad[1], bad[2], bad[3], bad[4], bad[5]));
        }
        leavesNoTrace(Due.STATE, RefusedCallsTest::full, x -> x.action(9, 3, 3, 1, 2, 3));
        int[] others = {-1, 8, MIN, MAX};
        for (int file : others) {
            leavesNoTrace(Due.INDEX, RefusedCallsTest::middling, x -> x.file(file, 7));
        }
        int[] contents = {-1, 100, MIN, MAX};
        for (int content : contents) {
            leavesNoTrace(Due.ARGUMENT, RefusedCallsTest::middling, x -> x.file(0, content));
        }
        int[] noSettings = {-1, 6, MIN, MAX};
        for (int setting : noSettings) {
            leavesNoTrace(Due.INDEX, RefusedCallsTest::middling, x -> x.set(setting, 7));
        }
        int[] values = {-1, 10, MIN, MAX};
        for (int value : values) {
            leavesNoTrace(Due.ARGUMENT, RefusedCallsTest::middling, x -> x.set(1, value));
        }
        for (int what = 0; what <= 7; what++) {
            int asked = what;
            leavesNoTrace(Due.INDEX, RefusedCallsTest::middling, x -> x.ofAction(5, asked));
        }
        leavesNoTrace(Due.ARGUMENT, RefusedCallsTest::middling, x -> x.ofAction(0, 8));
    }

    /** worker, ofWorker, mend, team, quota, ofTeam */
    private static void workersAndTeamsChangeNothing() {
        int[] faults = {-1, 10, MIN, MAX};
        for (int fault : faults) {
            leavesNoTrace(Due.ARGUMENT, RefusedCallsTest::middling, x -> x.worker(fault));
            leavesNoTrace(Due.ARGUMENT, RefusedCallsTest::middling, x -> x.mend(0, fault));
        }
        leavesNoTrace(Due.STATE, RefusedCallsTest::full, x -> x.worker(1));
        int[] others = {-1, 2, 4, MIN, MAX};
        for (int other : others) {
            leavesNoTrace(Due.INDEX, RefusedCallsTest::middling, x -> x.ofWorker(other, 0));
            leavesNoTrace(Due.INDEX, RefusedCallsTest::middling, x -> x.mend(other, 1));
            leavesNoTrace(Due.INDEX, RefusedCallsTest::middling, x -> x.quota(other, 1));
            leavesNoTrace(Due.INDEX, RefusedCallsTest::middling, x -> x.ofTeam(other, 1));
        }
        leavesNoTrace(Due.ARGUMENT, RefusedCallsTest::middling, x -> x.ofWorker(0, 5));
        leavesNoTrace(Due.ARGUMENT, RefusedCallsTest::middling, x -> x.ofTeam(0, 5));
        int[] quotas = {-1, 101, MIN, MAX};
        for (int quota : quotas) {
            leavesNoTrace(Due.ARGUMENT, RefusedCallsTest::middling, x -> x.team(quota));
            leavesNoTrace(Due.ARGUMENT, RefusedCallsTest::middling, x -> x.quota(0, quota));
        }
        leavesNoTrace(Due.STATE, RefusedCallsTest::full, x -> x.team(1));
    }

    /** build and recheck of what is not there, check, ofEntry, from, many */
    private static void buildingChangesNothing() {
        int[] others = {-1, 2, 4, MIN, MAX};
        for (int team : others) {
            leavesNoTrace(Due.INDEX, RefusedCallsTest::middling, x -> x.build(team, 3));
        }
        int[] noActions = {-1, 5, 14, MIN, MAX};
        for (int action : noActions) {
            leavesNoTrace(Due.INDEX, RefusedCallsTest::middling, x -> x.build(0, action));
            leavesNoTrace(Due.INDEX, RefusedCallsTest::middling, x -> x.from(1, action));
        }
        int[] checks = {-1, 10, MIN, MAX};
        for (int check : checks) {
            leavesNoTrace(Due.ARGUMENT, RefusedCallsTest::middling, x -> x.check(check));
        }
        int[] noEntries = {-1, middling().many(3), 60, MIN, MAX};
        for (int entry : noEntries) {
            leavesNoTrace(Due.INDEX, RefusedCallsTest::middling, x -> x.recheck(entry));
            leavesNoTrace(Due.INDEX, RefusedCallsTest::middling, x -> x.ofEntry(entry, 0));
            leavesNoTrace(Due.INDEX, RefusedCallsTest::middling, x -> x.from(entry, 0));
        }
        leavesNoTrace(Due.ARGUMENT, RefusedCallsTest::middling, x -> x.ofEntry(0, 8));
        leavesNoTrace(Due.INDEX, RefusedCallsTest::middling, x -> x.from(0, 0));
        leavesNoTrace(Due.ARGUMENT, RefusedCallsTest::middling, x -> x.many(10));
    }

    /** wouldRun, wouldBeWrong, touched, wouldGo */
    private static void whatWouldBeChangesNothing() {
        int[] others = {-1, 2, 4, MIN, MAX};
        for (int team : others) {
            leavesNoTrace(Due.INDEX, RefusedCallsTest::middling, x -> x.wouldRun(team, 3));
            leavesNoTrace(Due.INDEX, RefusedCallsTest::middling, x -> x.wouldBeWrong(team, 3));
            leavesNoTrace(Due.INDEX, RefusedCallsTest::middling, x -> x.wouldGo(team, 3));
        }
        int[] noActions = {-1, 5, 14, MIN, MAX};
        for (int action : noActions) {
            leavesNoTrace(Due.INDEX, RefusedCallsTest::middling, x -> x.wouldRun(0, action));
            leavesNoTrace(Due.INDEX, RefusedCallsTest::middling, x -> x.wouldBeWrong(0, action));
        }
        int[] files = {-1, 8, MIN, MAX};
        for (int file : files) {
            leavesNoTrace(Due.INDEX, RefusedCallsTest::middling, x -> x.touched(file));
        }
        int[] sizes = {0, 21, MIN, MAX};
        for (int size : sizes) {
            leavesNoTrace(Due.ARGUMENT, RefusedCallsTest::middling, x -> x.wouldGo(0, size));
        }
    }

    private static CachehallDesk changed(CachehallDesk x, int file, int content, int setting, int value) {
        x.file(file, content);
        x.set(setting, value);
        return x;
    }

    /** build: without a WORKER; and with a 61st ENTRY, behind HITS, CHECKS, WRONG ones and new ones. */
    private static void aBuildThatCanNotBeDoneChangesNothing() {
        leavesNoTrace(Due.STATE, RefusedCallsTest::withoutWorkers, x -> x.build(0, 0));
        // a 60th and a 61st
        leavesNoTrace(Due.STATE, () -> changed(with(59), 0, 90, 0, 0), x -> x.build(0, 1));
        leavesNoTrace(Due.STATE, () -> changed(with(59), 0, 90, 0, 0), x -> x.build(1, 2));
        // 0 is a HIT, that of 1 is CHECKED and right; 2 is the 61st.
        leavesNoTrace(Due.STATE, () -> changed(with(60), 0, 0, 5, 1), x -> x.build(1, 2));
        // That of 1 is WRONG and itself the 61st.
        leavesNoTrace(Due.STATE, () -> changed(with(60), 0, 0, 1, 3), x -> x.build(0, 1));
        // That of 1 is WRONG, the 60th is made of it, and 2 is the 61st.
        leavesNoTrace(Due.STATE, () -> changed(with(59), 0, 0, 1, 3), x -> x.build(0, 2));
        // 0 is WRONG by the WORKER, and what came of it is POISONED.
        leavesNoTrace(Due.STATE, () -> {
            CachehallDesk x = changed(with(59), 0, 0, 0, 0);
            x.mend(1, 1);
            x.check(1);
            return x;
        }, x -> x.build(1, 2));
        // 0 is WRONG by what is LEFT OUT, so that all of it have GONE, and 1 is the 61st.
        leavesNoTrace(Due.STATE, () -> {
            CachehallDesk x = changed(with(59), 0, 0, 0, 2);
            x.check(1);
            return x;
        }, x -> x.build(0, 2));
    }

    /** recheck: of one that has GONE, is POISONED, has another FILE or SETTING in its KEY, or at 60. */
    private static void aRecheckThatIsRefusedChangesNothing() {
        CachehallDesk seen = middling();
        int[] times = new int[3];
        for (int n = 0; n < seen.many(3); n++) {
            int entry = n;
            times[seen.ofEntry(entry, 5)]++;
            if (seen.ofEntry(entry, 5) != 0) {
                leavesNoTrace(Due.STATE, RefusedCallsTest::middling, x -> x.recheck(entry));
            }
        }
        DUE.is(true, times[0] > 0 && times[1] > 0 && times[2] > 0);
        leavesNoTrace(Due.STATE, () -> changed(with(59), 0, 90, 0, 0), x -> x.recheck(58));
        leavesNoTrace(Due.STATE, () -> {
            CachehallDesk x = full();
            x.set(1, 9);
            return x;
        }, x -> x.recheck(13));
        leavesNoTrace(Due.STATE, () -> with(60), x -> x.recheck(59));
        leavesNoTrace(Due.STATE, () -> changed(with(60), 7, 1, 0, 9), x -> x.recheck(59));
    }

    // ---- If several exceptions apply, the one that is named first is thrown

    /** action: IllegalArgumentException ahead of IllegalStateException, by each of its arguments. */
    private static void ofActionsArgumentsAheadOfTheState() {
        leavesNoTrace(Due.ARGUMENT, RefusedCallsTest::full, x -> x.action(256, 0, 0, 0, 1, 1));
        leavesNoTrace(Due.ARGUMENT, RefusedCallsTest::full, x -> x.action(-1, 0, 0, 0, 1, 1));
        leavesNoTrace(Due.ARGUMENT, RefusedCallsTest::full, x -> x.action(0, 1 << 14, 0, 0, 1, 1));
        leavesNoTrace(Due.ARGUMENT, RefusedCallsTest::full, x -> x.action(0, -1, 0, 0, 1, 1));
        leavesNoTrace(Due.ARGUMENT, RefusedCallsTest::full, x -> x.action(0, 0, 64, 0, 1, 1));
        leavesNoTrace(Due.ARGUMENT, RefusedCallsTest::full, x -> x.action(0, 0, 1, 2, 1, 1));
        leavesNoTrace(Due.ARGUMENT, RefusedCallsTest::full, x -> x.action(0, 0, 0, 0, 0, 1));
        leavesNoTrace(Due.ARGUMENT, RefusedCallsTest::full, x -> x.action(0, 0, 0, 0, 51, 1));
        leavesNoTrace(Due.ARGUMENT, RefusedCallsTest::full, x -> x.action(0, 0, 0, 0, 1, 0));
        leavesNoTrace(Due.ARGUMENT, RefusedCallsTest::full, x -> x.action(0, 0, 0, 0, 1, 21));
    }

    /** worker, team: IllegalArgumentException ahead of IllegalStateException. */
    private static void ofWorkersAndTeamsArgumentsAheadOfTheState() {
        leavesNoTrace(Due.ARGUMENT, RefusedCallsTest::full, x -> x.worker(-1));
        leavesNoTrace(Due.ARGUMENT, RefusedCallsTest::full, x -> x.worker(10));
        leavesNoTrace(Due.ARGUMENT, RefusedCallsTest::full, x -> x.team(-1));
        leavesNoTrace(Due.ARGUMENT, RefusedCallsTest::full, x -> x.team(101));
    }

    /** Of the others with two: IndexOutOfBoundsException ahead of IllegalArgumentException. */
    private static void anIndexAheadOfAnArgument() {
        int entries = middling().many(3);
        leavesNoTrace(Due.INDEX, RefusedCallsTest::middling, x -> x.file(8, 100));
        leavesNoTrace(Due.INDEX, RefusedCallsTest::middling, x -> x.file(-1, -1));
        leavesNoTrace(Due.INDEX, RefusedCallsTest::middling, x -> x.set(6, 10));
        leavesNoTrace(Due.INDEX, RefusedCallsTest::middling, x -> x.set(-1, -1));
        leavesNoTrace(Due.INDEX, RefusedCallsTest::middling, x -> x.ofAction(5, 8));
        leavesNoTrace(Due.INDEX, RefusedCallsTest::middling, x -> x.ofAction(-1, -1));
        leavesNoTrace(Due.INDEX, RefusedCallsTest::middling, x -> x.ofWorker(2, 5));
        leavesNoTrace(Due.INDEX, RefusedCallsTest::middling, x -> x.ofWorker(-1, -1));
        leavesNoTrace(Due.INDEX, RefusedCallsTest::middling, x -> x.mend(2, 10));
        leavesNoTrace(Due.INDEX, RefusedCallsTest::middling, x -> x.mend(-1, -1));
        leavesNoTrace(Due.INDEX, RefusedCallsTest::middling, x -> x.quota(2, 101));
        leavesNoTrace(Due.INDEX, RefusedCallsTest::middling, x -> x.quota(-1, -1));
        leavesNoTrace(Due.INDEX, RefusedCallsTest::middling, x -> x.ofTeam(2, 5));
        leavesNoTrace(Due.INDEX, RefusedCallsTest::middling, x -> x.ofTeam(-1, -1));
        leavesNoTrace(Due.INDEX, RefusedCallsTest::middling, x -> x.ofEntry(entries, 8));
        leavesNoTrace(Due.INDEX, RefusedCallsTest::middling, x -> x.ofEntry(-1, -1));
        leavesNoTrace(Due.INDEX, RefusedCallsTest::middling, x -> x.wouldGo(2, 21));
        leavesNoTrace(Due.INDEX, RefusedCallsTest::middling, x -> x.wouldGo(-1, 0));
    }

    /** build, recheck: IndexOutOfBoundsException ahead of IllegalStateException. */
    private static void anIndexAheadOfTheState() {
        leavesNoTrace(Due.INDEX, RefusedCallsTest::withoutWorkers, x -> x.build(1, 0));
        leavesNoTrace(Due.INDEX, RefusedCallsTest::withoutWorkers, x -> x.build(0, 1));
        leavesNoTrace(Due.INDEX, () -> changed(with(60), 0, 90, 0, 0), x -> x.build(2, 0));
        leavesNoTrace(Due.INDEX, () -> changed(with(60), 0, 90, 0, 0), x -> x.build(-1, 2));
        leavesNoTrace(Due.INDEX, () -> changed(with(60), 0, 90, 0, 0), x -> x.build(0, 3));
        leavesNoTrace(Due.INDEX, () -> changed(with(60), 0, 90, 0, 0), x -> x.build(0, -1));
        leavesNoTrace(Due.INDEX, () -> with(60), x -> x.recheck(60));
        leavesNoTrace(Due.INDEX, () -> with(60), x -> x.recheck(-1));
        leavesNoTrace(Due.INDEX, RefusedCallsTest::withoutWorkers, x -> x.recheck(0));
    }

    // ---- what would be (nothing is changed)

    /** wouldRun, wouldBeWrong, touched, wouldGo, digest; and what is told of ACTIONS and TEAMS. */
    private static void askingChangesNothing() {
        List<Supplier<CachehallDesk>> halls = List.of(RefusedCallsTest::middling, RefusedCallsTest::full,
                () -> changed(with(59), 0, 0, 1, 3), () -> changed(with(60), 0, 0, 1, 3),
                RefusedCallsTest::withoutWorkers);
        for (Supplier<CachehallDesk> made : halls) {
            List<Object> due = story(made.get());
            for (int team = 0; team < made.get().many(2); team++) {
                for (int action = 0; action < made.get().many(0); action++) {
                    DUE.is(due, story(asked(made.get(), team, action)));
                }
            }
        }
    }

    private static CachehallDesk asked(CachehallDesk x, int team, int action) {
        x.wouldRun(team, action);
        x.wouldBeWrong(team, action);
        x.wouldGo(team, 1 + action);
        x.touched(action % 8);
        x.ofAction(action, 6);
        x.ofTeam(team, 1);
        x.hitShare();
        x.digest();
        return x;
    }
}
