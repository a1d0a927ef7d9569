/** Promises 1 to 5: a new object, and what is built. */
final class BuiltTest {
    private static final Due DUE = new Due();

    public static void main(String[] args) {
        aNewObjectHasNothing();
        actionsAreNumbered();
        actionTakesTheEdges();
        actionRefusesArguments();
        actionRefusesAFifteenth();
        aRefusedActionChangesNothing();
        fileAnswersTheOneBefore();
        fileRefuses();
        setAnswersTheOneBefore();
        setRefuses();
        ofActionTellsWhatWasGiven();
        ofActionTellsThePrint();
        printsWrapAt997();
        printKnowsNoFaultsAndNoEntries();
        ofActionCountsKeptEntries();
        ofActionRefuses();
        DUE.end();
    }

    private static void aNewObjectHasNothing() {
        CachehallDesk x = new CachehallDesk();
        for (int what = 0; what <= 9; what++) {
            DUE.is(0, x.many(what));
        }
        DUE.refuses(Due.INDEX, () -> x.ofAction(0, 0));
        DUE.refuses(Due.INDEX, () -> x.ofWorker(0, 0));
        DUE.refuses(Due.INDEX, () -> x.ofTeam(0, 0));
        DUE.refuses(Due.INDEX, () -> x.ofEntry(0, 0));
        for (int file = 0; file < 8; file++) {
            DUE.is(0, x.file(file, 0));
        }
        for (int setting = 0; setting < 6; setting++) {
            DUE.is(0, x.set(setting, 0));
        }
        DUE.is(0, x.check(0));
    }

    private static void actionsAreNumbered() {
        CachehallDesk x = new CachehallDesk();
        for (int number = 0; number < 14; number++) {
            DUE.is(number, x.action(1, (1 << number) - 1, 1, 0, 1, 1));
            DUE.is(number + 1, x.many(0));
        }
    }

    private static void actionTakesTheEdges() {
        CachehallDesk x = new CachehallDesk();
        DUE.is(0, x.action(0, 0, 0, 0, 1, 1));
        DUE.is(1, x.action(255, 1, 63, 63, 50, 20));
        DUE.is(2, x.action(128, 3, 32, 32, 1, 20));
        DUE.is(3, x.action(0, 0, 63, 0, 50, 1));
    }

    private static void actionRefusesArguments() {
        CachehallDesk x = new CachehallDesk();
        x.action(0, 0, 0, 0, 1, 1);
        int[] badFiles = {-1, 256, Integer.MIN_VALUE, Integer.MAX_VALUE};
        for (int files : badFiles) {
            DUE.refuses(Due.ARGUMENT, () -> x.action(files, 0, 0, 0, 1, 1));
        }
        int[] badActions = {2, 3, -1, -2, 1 << 14, 1 << 31, Integer.MAX_VALUE};
        for (int actions : badActions) {
            DUE.refuses(Due.ARGUMENT, () -> x.action(0, actions, 0, 0, 1, 1));
        }
        int[] badSettings = {-1, 64, Integer.MIN_VALUE, Integer.MAX_VALUE};
        for (int settings : badSettings) {
            DUE.refuses(Due.ARGUMENT, () -> x.action(0, 0, settings, 0, 1, 1));
        }
        int[] badOut = {1, 7, 64, -1, 1 << 31};
        for (int out : badOut) {
            DUE.refuses(Due.ARGUMENT, () -> x.action(0, 0, 6, out, 1, 1));
        }
        int[] badCosts = {0, 51, -1, Integer.MIN_VALUE, Integer.MAX_VALUE};
        for (int cost : badCosts) {
            DUE.refuses(Due.ARGUMENT, () -> x.action(0, 0, 0, 0, cost, 1));
        }
        int[] badSizes = {0, 21, -1, Integer.MIN_VALUE, Integer.MAX_VALUE};
        for (int size : badSizes) {
            DUE.refuses(Due.ARGUMENT, () -> x.action(0, 0, 0, 0, 1, size));
        }
        DUE.is(1, x.many(0));
    }

    private static void actionRefusesAFifteenth() {
        CachehallDesk x = new CachehallDesk();
        for (int number = 0; number < 14; number++) {
            x.action(0, 0, 0, 0, 1, 1);
        }
        DUE.refuses(Due.STATE, () -> x.action(0, 0, 0, 0, 1, 1));
        DUE.refuses(Due.STATE, () -> x.action(255, (1 << 14) - 1, 63, 63, 50, 20));
        // The exception that is named first is thrown.
        DUE.refuses(Due.ARGUMENT, () -> x.action(0, 1 << 14, 0, 0, 1, 1));
        DUE.refuses(Due.ARGUMENT, () -> x.action(0, 0, 0, 0, 1, 0));
        DUE.is(14, x.many(0));
    }

    private static void aRefusedActionChangesNothing() {
        CachehallDesk x = new CachehallDesk();
        x.action(3, 0, 5, 4, 7, 8);
        long before = x.digest();
        DUE.refuses(Due.ARGUMENT, () -> x.action(1, 0, 1, 1, 9, 21));
        DUE.is(before, x.digest());
        DUE.is(1, x.action(1, 0, 1, 1, 9, 20));
    }

    private static void fileAnswersTheOneBefore() {
        CachehallDesk x = new CachehallDesk();
        for (int file = 0; file < 8; file++) {
            DUE.is(0, x.file(file, 90 + file));
        }
        for (int file = 0; file < 8; file++) {
            DUE.is(90 + file, x.file(file, 99));
            DUE.is(99, x.file(file, 0));
            DUE.is(0, x.file(file, 0));
        }
    }

    private static void fileRefuses() {
        CachehallDesk x = new CachehallDesk();
        x.file(0, 5);
        DUE.refuses(Due.INDEX, () -> x.file(-1, 0));
        DUE.refuses(Due.INDEX, () -> x.file(8, 0));
        DUE.refuses(Due.INDEX, () -> x.file(Integer.MIN_VALUE, 0));
        DUE.refuses(Due.INDEX, () -> x.file(Integer.MAX_VALUE, 0));
        DUE.refuses(Due.ARGUMENT, () -> x.file(0, -1));
        DUE.refuses(Due.ARGUMENT, () -> x.file(0, 100));
        DUE.refuses(Due.ARGUMENT, () -> x.file(0, Integer.MAX_VALUE));
        DUE.refuses(Due.INDEX, () -> x.file(8, 100));
        DUE.is(5, x.file(0, 5));
    }

    private static void setAnswersTheOneBefore() {
        CachehallDesk x = new CachehallDesk();
        for (int setting = 0; setting < 6; setting++) {
            DUE.is(0, x.set(setting, setting + 1));
        }
        for (int setting = 0; setting < 6; setting++) {
            DUE.is(setting + 1, x.set(setting, 9));
            DUE.is(9, x.set(setting, 0));
        }
    }

    private static void setRefuses() {
        CachehallDesk x = new CachehallDesk();
        x.set(5, 7);
        DUE.refuses(Due.INDEX, () -> x.set(-1, 0));
        DUE.refuses(Due.INDEX, () -> x.set(6, 0));
        DUE.refuses(Due.INDEX, () -> x.set(Integer.MIN_VALUE, 0));
        DUE.refuses(Due.ARGUMENT, () -> x.set(5, -1));
        DUE.refuses(Due.ARGUMENT, () -> x.set(5, 10));
        DUE.refuses(Due.INDEX, () -> x.set(6, 10));
        DUE.is(7, x.set(5, 7));
    }

    private static void ofActionTellsWhatWasGiven() {
        CachehallDesk x = new CachehallDesk();
        x.action(0, 0, 0, 0, 1, 1);
        x.action(200, 1, 44, 12, 33, 17);
        int[] due = {200, 1, 44, 12, 33, 17};
        for (int what = 0; what < due.length; what++) {
            DUE.is(due[what], x.ofAction(1, what));
        }
    }

    private static void ofActionTellsThePrint() {
        CachehallDesk x = new CachehallDesk();
        x.action(1 + 128, 0, 4 + 32, 32, 1, 1);
        x.action(0, 1, 0, 0, 1, 1);
        x.action(0, 3, 0, 0, 1, 1);
        DUE.is(0, x.ofAction(0, 6));
        DUE.is(31, x.ofAction(1, 6));
        // (62 + 5 * (3 * 31)) % 997
        DUE.is(527, x.ofAction(2, 6));
        x.file(0, 5);
        x.file(7, 9);
        x.file(3, 99);
        x.set(2, 4);
        x.set(5, 9);
        x.set(0, 9);
        // (0 + 7 * (1 * 5 + 8 * 9) + 3 * (3 * 4 + 6 * 9)) % 997: what is LEFT OUT counts, too
        DUE.is(737, x.ofAction(0, 6));
        // (31 + 5 * (2 * 737)) % 997
        DUE.is(422, x.ofAction(1, 6));
        // (62 + 5 * (2 * 737 + 3 * 422)) % 997
        DUE.is(801, x.ofAction(2, 6));
    }

    private static void printsWrapAt997() {
        CachehallDesk x = new CachehallDesk();
        x.action(255, 0, 63, 0, 1, 1);
        for (int file = 0; file < 8; file++) {
            x.file(file, 99);
        }
        for (int setting = 0; setting < 6; setting++) {
            x.set(setting, 9);
        }
        // 7 * 36 * 99 + 3 * 21 * 9 = 25515
        DUE.is(25515 % 997, x.ofAction(0, 6));
        for (int number = 1; number < 14; number++) {
            x.action(0, (1 << number) - 1, 0, 0, 1, 1);
            int sum = 31 * number;
            for (int read = 0; read < number; read++) {
                sum += 5 * (read + 2) * x.ofAction(read, 6);
            }
            DUE.is(sum % 997, x.ofAction(number, 6));
        }
    }

    private static void printKnowsNoFaultsAndNoEntries() {
        CachehallDesk x = new CachehallDesk();
        x.action(0, 0, 1, 1, 1, 1);
        x.action(0, 1, 0, 0, 1, 1);
        x.worker(1);
        x.team(100);
        DUE.is(1, x.build(0, 0));
        DUE.is(0, x.ofAction(0, 6));
        DUE.is(31, x.ofAction(1, 6));
        x.set(0, 2);
        // The ENTRY would still be a HIT, but its PRINT is not what would come.
        DUE.is(1, x.build(0, 0));
        DUE.is(6, x.ofAction(0, 6));
        DUE.is(91, x.ofAction(1, 6));
    }

    private static void ofActionCountsKeptEntries() {
        CachehallDesk x = new CachehallDesk();
        x.action(1, 0, 0, 0, 1, 1);
        x.action(2, 0, 0, 0, 1, 1);
        x.worker(0);
        x.team(3);
        x.team(0);
        DUE.is(0, x.ofAction(0, 7));
        x.build(0, 0);
        x.file(0, 1);
        x.build(0, 0);
        x.build(0, 1);
        DUE.is(2, x.ofAction(0, 7));
        DUE.is(1, x.ofAction(1, 7));
        x.file(0, 2);
        x.build(1, 0);
        DUE.is(2, x.ofAction(0, 7));
        x.build(0, 0);
        // The QUOTA of 3 is full: the first ENTRY has GONE for the new one.
        DUE.is(2, x.ofAction(0, 7));
        DUE.is(1, x.ofAction(1, 7));
        x.quota(0, 0);
        DUE.is(0, x.ofAction(0, 7));
    }

    private static void ofActionRefuses() {
        CachehallDesk x = new CachehallDesk();
        x.action(0, 0, 0, 0, 1, 1);
        for (int what = 0; what <= 7; what++) {
            int asked = what;
            DUE.refuses(Due.INDEX, () -> x.ofAction(-1, asked));
            DUE.refuses(Due.INDEX, () -> x.ofAction(1, asked));
        }
        DUE.refuses(Due.INDEX, () -> x.ofAction(14, 0));
        DUE.refuses(Due.INDEX, () -> x.ofAction(Integer.MAX_VALUE, 0));
        DUE.refuses(Due.INDEX, () -> x.ofAction(Integer.MIN_VALUE, 0));
        DUE.refuses(Due.ARGUMENT, () -> x.ofAction(0, -1));
        DUE.refuses(Due.ARGUMENT, () -> x.ofAction(0, 8));
        DUE.refuses(Due.INDEX, () -> x.ofAction(1, 8));
    }
}
