import java.util.function.Supplier;

/** Promises 19 to 23: what would be, and the checksum. Nothing is changed by these. */
final class WouldBeTest {
    private static final Due DUE = new Due();

    public static void main(String[] args) {
        wouldRunCountsRuns();
        wouldRunCountsThoseToCheck();
        wouldRunIsNoneIfNothingCanBeBuilt();
        wouldBeWrongTellsFaultsAndLeftOut();
        wouldBeWrongKnowsChecks();
        wouldBeWrongIsFalseIfNothingCanBeBuilt();
        bothRefuse();
        touchedGoesUpwards();
        touchedRefuses();
        wouldGoCounts();
        wouldGoRefuses();
        nothingIsChanged();
        digestOfANewObject();
        digestTakesAllInOrder();
        allAtTheirMost();
        DUE.end();
    }

    /** 0 READS FILE 0; 1 READS 0 and leaves SETTING 0 out; 2 READS 1 and FILE 1; 3 READS FILE 1. */
    private static CachehallDesk chain(int fault) {
        CachehallDesk x = new CachehallDesk();
        x.action(1, 0, 0, 0, 10, 2);
        x.action(0, 1, 1, 1, 20, 3);
        x.action(2, 2, 0, 0, 30, 5);
        x.action(2, 0, 0, 0, 40, 1);
        x.team(100);
        x.worker(fault);
        return x;
    }

    private static CachehallDesk almostFull() {
        CachehallDesk x = chain(0);
        for (int n = 0; n < 59; n++) {
            x.file(0, n);
            x.build(0, 0);
        }
        return x;
    }

    private static void wouldRunCountsRuns() {
        CachehallDesk x = chain(0);
        for (int action = 0; action < 3; action++) {
            DUE.is(action + 1, x.wouldRun(0, action));
        }
        DUE.is(1, x.wouldRun(0, 3));
        x.build(0, 1);
        DUE.is(0, x.wouldRun(0, 0));
        DUE.is(0, x.wouldRun(0, 1));
        DUE.is(1, x.wouldRun(0, 2));
        x.build(0, 2);
        DUE.is(0, x.wouldRun(0, 2));
        x.file(1, 1);
        DUE.is(1, x.wouldRun(0, 2));
        x.file(0, 1);
        DUE.is(3, x.wouldRun(0, 2));
        DUE.is(3, x.many(3));
    }

    private static void wouldRunCountsThoseToCheck() {
        CachehallDesk x = chain(1);
        x.worker(0);
        x.build(0, 2);
        x.check(2);
        DUE.is(0, x.wouldRun(0, 0));
        // The second HIT, that of 1, is CHECKED: it is WRONG, and 2 is POISONED by that.
        DUE.is(2, x.wouldRun(0, 2));
        x.check(1);
        // 0 is CHECKED: it is WRONG, and all that came of it; 1 and 2 are then RUN.
        DUE.is(3, x.wouldRun(0, 2));
        x.check(3);
        DUE.is(1, x.wouldRun(0, 2));
        x.check(0);
        DUE.is(0, x.wouldRun(0, 2));
        DUE.is(50, x.ofWorker(0, 0));
    }

    private static void wouldRunIsNoneIfNothingCanBeBuilt() {
        CachehallDesk x = new CachehallDesk();
        x.action(0, 0, 0, 0, 1, 1);
        x.team(0);
        DUE.is(-1, x.wouldRun(0, 0));
        x.worker(0);
        DUE.is(1, x.wouldRun(0, 0));
        CachehallDesk y = almostFull();
        DUE.is(0, y.wouldRun(0, 0));
        DUE.is(1, y.wouldRun(0, 1));
        DUE.is(-1, y.wouldRun(0, 2));
        y.file(0, 60);
        DUE.is(1, y.wouldRun(0, 0));
        DUE.is(-1, y.wouldRun(0, 1));
        y.build(0, 0);
        DUE.is(0, y.wouldRun(0, 0));
        DUE.is(-1, y.wouldRun(0, 3));
    }

    private static void wouldBeWrongTellsFaultsAndLeftOut() {
        CachehallDesk x = chain(3);
        DUE.is(false, x.wouldBeWrong(0, 0));
        DUE.is(false, x.wouldBeWrong(0, 1));
        // the third RUN
        DUE.is(true, x.wouldBeWrong(0, 2));
        x.build(0, 1);
        DUE.is(true, x.wouldBeWrong(0, 3));
        x.mend(0, 0);
        DUE.is(false, x.wouldBeWrong(0, 3));
        DUE.is(false, x.wouldBeWrong(0, 2));
        x.set(0, 1);
        DUE.is(false, x.wouldBeWrong(0, 0));
        DUE.is(true, x.wouldBeWrong(0, 1));
        DUE.is(true, x.wouldBeWrong(0, 2));
        x.set(0, 0);
        DUE.is(false, x.wouldBeWrong(0, 1));
        DUE.is(2, x.many(3));
    }

    private static void wouldBeWrongKnowsChecks() {
        CachehallDesk x = chain(0);
        x.worker(0);
        x.build(0, 2);
        x.set(0, 1);
        DUE.is(true, x.wouldBeWrong(0, 1));
        x.check(1);
        // The CHECK would find it.
        DUE.is(false, x.wouldBeWrong(0, 1));
        DUE.is(false, x.wouldBeWrong(0, 2));
        x.check(3);
        DUE.is(true, x.wouldBeWrong(0, 1));
        DUE.is(1, x.ofAction(1, 3));
        DUE.is(0, x.many(9));
    }

    private static void wouldBeWrongIsFalseIfNothingCanBeBuilt() {
        CachehallDesk x = new CachehallDesk();
        x.action(0, 0, 0, 0, 1, 1);
        x.team(0);
        DUE.is(false, x.wouldBeWrong(0, 0));
        CachehallDesk y = almostFull();
        y.mend(0, 1);
        y.file(0, 60);
        DUE.is(true, y.wouldBeWrong(0, 0));
        DUE.is(false, y.wouldBeWrong(0, 1));
        DUE.is(true, y.wouldBeWrong(0, 3));
        y.build(0, 0);
        DUE.is(false, y.wouldBeWrong(0, 3));
    }

    private static void bothRefuse() {
        CachehallDesk x = chain(0);
        int[] badTeams = {-1, 1, 4, Integer.MIN_VALUE, Integer.MAX_VALUE};
        for (int team : badTeams) {
            DUE.refuses(Due.INDEX, () -> x.wouldRun(team, 0));
            DUE.refuses(Due.INDEX, () -> x.wouldBeWrong(team, 0));
        }
        int[] badActions = {-1, 4, 14, 31, Integer.MIN_VALUE, Integer.MAX_VALUE};
        for (int action : badActions) {
            DUE.refuses(Due.INDEX, () -> x.wouldRun(0, action));
            DUE.refuses(Due.INDEX, () -> x.wouldBeWrong(0, action));
        }
        CachehallDesk y = new CachehallDesk();
        DUE.refuses(Due.INDEX, () -> y.wouldRun(0, 0));
        DUE.refuses(Due.INDEX, () -> y.wouldBeWrong(0, 0));
    }

    private static void touchedGoesUpwards() {
        CachehallDesk x = chain(0);
        DUE.is(0, x.touched(0));
        x.build(0, 2);
        x.build(0, 3);
        DUE.is(3, x.touched(0));
        DUE.is(2, x.touched(1));
        DUE.is(0, x.touched(2));
        DUE.is(0, x.touched(7));
        x.file(1, 1);
        x.build(0, 2);
        // both of ACTION 2, also the one made of another CONTENT
        DUE.is(4, x.touched(0));
        DUE.is(3, x.touched(1));
        x.quota(0, 6);
        int kept = x.many(4);
        DUE.is(true, kept < 5);
        int ofThose = x.ofAction(0, 7) + x.ofAction(1, 7) + x.ofAction(2, 7);
        DUE.is(ofThose, x.touched(0));
        CachehallDesk y = new CachehallDesk();
        y.action(128, 0, 0, 0, 1, 1);
        y.worker(1);
        y.team(100);
        y.build(0, 0);
        DUE.is(1, y.touched(7));
        y.worker(0);
        y.recheck(0);
        // one POISONED, one KEPT
        DUE.is(1, y.touched(7));
    }

    private static void touchedRefuses() {
        CachehallDesk x = new CachehallDesk();
        int[] bad = {-1, 8, 32, Integer.MIN_VALUE, Integer.MAX_VALUE};
        for (int file : bad) {
            DUE.refuses(Due.INDEX, () -> x.touched(file));
        }
    }

    private static void wouldGoCounts() {
        CachehallDesk x = chain(0);
        x.team(20);
        DUE.is(0, x.wouldGo(0, 20));
        x.quota(0, 11);
        x.build(0, 2);
        x.build(0, 3);
        // SIZES 2, 3, 5, 1, WORTH 50, 66, 60, 400, and the QUOTA is full
        int[] due = {1, 1, 2, 2, 2, 2, 2, 3, 3, 3, 4, 0, 0};
        for (int size = 1; size <= due.length; size++) {
            DUE.is(due[size - 1], x.wouldGo(0, size));
        }
        DUE.is(0, x.wouldGo(0, 20));
        DUE.is(0, x.wouldGo(1, 20));
        x.quota(1, 19);
        DUE.is(0, x.wouldGo(1, 20));
        DUE.is(0, x.wouldGo(1, 1));
        x.quota(0, 13);
        DUE.is(0, x.wouldGo(0, 2));
        DUE.is(1, x.wouldGo(0, 3));
        DUE.is(4, x.many(4));
    }

    private static void wouldGoRefuses() {
        CachehallDesk x = chain(0);
        int[] badTeams = {-1, 1, Integer.MIN_VALUE, Integer.MAX_VALUE};
        for (int team : badTeams) {
            DUE.refuses(Due.INDEX, () -> x.wouldGo(team, 1));
            DUE.refuses(Due.INDEX, () -> x.wouldGo(team, 0));
        }
        int[] badSizes = {0, 21, -1, Integer.MIN_VALUE, Integer.MAX_VALUE};
        for (int size : badSizes) {
            DUE.refuses(Due.ARGUMENT, () -> x.wouldGo(0, size));
        }
    }

    private static CachehallDesk busy() {
        CachehallDesk x = chain(2);
        x.worker(0);
        x.build(0, 2);
        x.quota(0, 10);
        x.set(0, 1);
        x.check(1);
        return x;
    }

    private static void nothingIsChanged() {
        long before = Halls.checksum(WouldBeTest::busy).longValue();
        for (int number = 0; number < 4; number++) {
            int asked = number;
            DUE.is(before, Halls.checksum(() -> {
                CachehallDesk x = busy();
                x.wouldRun(0, asked);
                return x;
            }).longValue());
            DUE.is(before, Halls.checksum(() -> {
                CachehallDesk x = busy();
                x.wouldBeWrong(0, asked);
                return x;
            }).longValue());
            DUE.is(before, Halls.checksum(() -> {
                CachehallDesk x = busy();
                x.wouldGo(0, 1 + 5 * asked);
                x.touched(asked);
                x.digest();
                return x;
            }).longValue());
        }
        CachehallDesk y = busy();
        y.wouldRun(0, 2);
        DUE.is(1, y.check(1));
    }

    private static void digestOfANewObject() {
        long due = 5747;
        for (int n = 0; n < 18; n++) {
            due *= 31;
        }
        DUE.is(due, new CachehallDesk().digest());
    }

    private static void digestIsAsDue(Supplier<CachehallDesk> made) {
        DUE.is(Halls.checksum(made).longValue(), made.get().digest());
    }

    private static void digestTakesAllInOrder() {
        digestIsAsDue(() -> chain(2));
        digestIsAsDue(WouldBeTest::busy);
        digestIsAsDue(() -> {
            CachehallDesk x = busy();
            x.team(7);
            x.build(0, 2);
            x.build(1, 3);
            return x;
        });
        digestIsAsDue(() -> {
            CachehallDesk x = busy();
            x.team(7);
            x.build(1, 2);
            x.file(0, 9);
            x.build(1, 2);
            return x;
        });
        digestIsAsDue(() -> {
            CachehallDesk x = almostFull();
            x.file(0, 60);
            return x;
        });
    }

    private static CachehallDesk atItsMost() {
        CachehallDesk x = new CachehallDesk();
        for (int n = 0; n < 14; n++) {
            x.action(1 << n % 8, (1 << n) - 1, 63, 21, 50, 20);
        }
        for (int n = 0; n < 4; n++) {
            x.worker(9 - n);
            x.team(100);
        }
        x.check(1);
        for (int n = 0; n < 40; n++) {
            x.file(7, n);
            try {
                x.build(n % 4, 13);
            } catch (IllegalStateException e) {
                DUE.is(true, x.many(3) > 46);
            }
            x.set(n % 6, n % 10);
        }
        return x;
    }

    private static void allAtTheirMost() {
        CachehallDesk x = atItsMost();
        DUE.is(true, x.many(3) > 46);
        DUE.is(x.many(4), x.touched(0));
        DUE.is(x.ofAction(7, 7) + x.ofAction(8, 7) + x.ofAction(9, 7) + x.ofAction(10, 7)
                + x.ofAction(11, 7) + x.ofAction(12, 7) + x.ofAction(13, 7), x.touched(7));
        digestIsAsDue(WouldBeTest::atItsMost);
    }
}
