/**
 * The sentences of the Terms, sections 1 to 3, that name a boundary case, in their order: each test has
 * above it the words of the document that would be broken if it failed.
 */
final class EdgesOfSections1To3Test {
    private static final Due DUE = new Due();

    public static void main(String[] args) {
        whatIsBuilt();
        workers();
        theCache();
        DUE.end();
    }

    private static void whatIsBuilt() {
        filesAre0To7();
        contentIs0To99And0AtFirst();
        settingsAre0To5();
        valueIs0To9And0AtFirst();
        setsAreToldAsSums();
        atMost14ActionsNumberedFrom0();
        actionsWithSmallerNumbers();
        leftOutOfThoseThatItReads();
        costIs1To50();
        sizeIs1To20();
        printIsTakenModulo997();
        printOfWhatReadsNothing();
        printOfOneThatReadsAllIsWithoutOverflow();
        printThatWasGotOfEach();
        theCallsGoTo512();
    }

    private static void workers() {
        atMost4WorkersNumberedFrom0();
        trustIs50AtFirst();
        faultIs0To9();
        eachNthRun();
        ofAllOfItsRunsEver();
        whatIsNotBuiltIsNoRun();
        zeroBehind996();
        aRunCostsTheCost();
        trustOf20OrMore();
        trustOf15IsLessThan20();
        thatWithTheGreatestTrust();
        whichIsTheLeastBusy();
        thenTheSmallestNumber();
    }

    private static void theCache() {
        atMost60EntriesEver();
        goneAndPoisonedEntriesAreOfThe60();
        contentsOfTheFilesThatTheActionReads();
        valuesOfTheSettingsThatItReads();
        butThoseThatAreLeftOut();
        printsThatWereGotOfTheActions();
        theEntriesFromWhichThosePrintsWereGot();
        keptGoneOrPoisoned();
    }

    // ---- 1. What is built

    /** FILES are 0 to 7. */
    private static void filesAre0To7() {
        CachehallDesk x = new CachehallDesk();
        x.action(255, 0, 0, 0, 1, 1);
        for (int file = 0; file <= 7; file++) {
            x.file(file, 1);
            DUE.is(7 * (file + 1), x.ofAction(0, 6));
            x.file(file, 0);
        }
        DUE.refuses(Due.INDEX, () -> x.file(-1, 1));
        DUE.refuses(Due.INDEX, () -> x.file(8, 1));
        DUE.is(0, x.ofAction(0, 6));
    }

    /** Each with a CONTENT, 0 to 99 (0 at first). */
    private static void contentIs0To99And0AtFirst() {
        CachehallDesk x = new CachehallDesk();
        for (int file = 0; file <= 7; file++) {
            int asked = file;
            DUE.is(0, x.file(file, 99));
            DUE.refuses(Due.ARGUMENT, () -> x.file(asked, 100));
            DUE.is(99, x.file(file, 0));
            DUE.refuses(Due.ARGUMENT, () -> x.file(asked, -1));
            DUE.is(0, x.file(file, 1));
        }
    }

    /** SETTINGS are 0 to 5. */
    private static void settingsAre0To5() {
        CachehallDesk x = new CachehallDesk();
        x.action(0, 0, 63, 0, 1, 1);
        for (int setting = 0; setting <= 5; setting++) {
            x.set(setting, 1);
            DUE.is(3 * (setting + 1), x.ofAction(0, 6));
            x.set(setting, 0);
        }
        DUE.refuses(Due.INDEX, () -> x.set(-1, 1));
        DUE.refuses(Due.INDEX, () -> x.set(6, 1));
        DUE.is(0, x.ofAction(0, 6));
    }

    /** Each with a VALUE, 0 to 9 (0 at first). */
    private static void valueIs0To9And0AtFirst() {
        CachehallDesk x = new CachehallDesk();
        for (int setting = 0; setting <= 5; setting++) {
            int asked = setting;
            DUE.is(0, x.set(setting, 9));
            DUE.refuses(Due.ARGUMENT, () -> x.set(asked, 10));
            DUE.is(9, x.set(setting, 0));
            DUE.refuses(Due.ARGUMENT, () -> x.set(asked, -1));
            DUE.is(0, x.set(setting, 1));
        }
    }

    /** Sets are told as the sum of 2^k for each k in them: the empty ones, the ends alone, and all. */
    private static void setsAreToldAsSums() {
        int[][] sets = {{0, 0, 0, 0}, {1, 1, 1, 1}, {128, 4096, 32, 32}, {129, 4097, 33, 32}, {255, 8191, 63, 63}};
        for (int[] set : sets) {
            CachehallDesk x = new CachehallDesk();
            for (int n = 0; n < 13; n++) {
                x.action(0, 0, 0, 0, 1, 1);
            }
            x.action(set[0], set[1], set[2], set[3], 1, 1);
            for (int what = 0; what <= 3; what++) {
                DUE.is(set[what], x.ofAction(13, what));
            }
            for (int file = 0; file <= 7; file++) {
                x.file(file, 1);
            }
            for (int setting = 0; setting <= 5; setting++) {
                x.set(setting, 1);
            }
            int sum = 31 * 13;
            for (int k = 0; k < 13; k++) {
                sum += (set[0] >> k & 1) * 7 * (k + 1);
                sum += (set[1] >> k & 1) * 5 * (k + 2) * 31 * k;
                sum += (set[2] >> k & 1) * 3 * (k + 1);
            }
            DUE.is(sum % 997, x.ofAction(13, 6));
        }
    }

    /** At most 14 ACTIONS, numbered from 0. */
    private static void atMost14ActionsNumberedFrom0() {
        CachehallDesk x = new CachehallDesk();
        for (int number = 0; number < 14; number++) {
            int next = number;
            DUE.refuses(Due.INDEX, () -> x.ofAction(next, 0));
            DUE.is(number, x.action(0, 0, 0, 0, 1, 1));
            DUE.is(0, x.ofAction(number, 0));
        }
        DUE.refuses(Due.STATE, () -> x.action(0, 0, 0, 0, 1, 1));
        DUE.refuses(Due.INDEX, () -> x.ofAction(14, 0));
        DUE.is(14, x.many(0));
    }

    /** What it READS: a set of ACTIONS with smaller numbers, so not itself. */
    private static void actionsWithSmallerNumbers() {
        CachehallDesk x = new CachehallDesk();
        for (int number = 0; number < 14; number++) {
            int itself = 1 << number;
            DUE.refuses(Due.ARGUMENT, () -> x.action(0, itself, 0, 0, 1, 1));
            DUE.is(number, x.action(0, itself - 1, 0, 0, 1, 1));
            DUE.is(itself - 1, x.ofAction(number, 1));
        }
    }

    /** SETTINGS that are LEFT OUT of its KEY, of those that it READS. */
    private static void leftOutOfThoseThatItReads() {
        CachehallDesk x = new CachehallDesk();
        for (int setting = 0; setting <= 5; setting++) {
            int out = 1 << setting;
            DUE.refuses(Due.ARGUMENT, () -> x.action(0, 0, 63 - out, out, 1, 1));
            DUE.refuses(Due.ARGUMENT, () -> x.action(0, 0, 0, out, 1, 1));
            DUE.is(2 * setting, x.action(0, 0, out, out, 1, 1));
            DUE.is(2 * setting + 1, x.action(0, 0, 63, 63 - out, 1, 1));
        }
        x.action(0, 0, 63, 63, 1, 1);
        DUE.is(63, x.ofAction(12, 3));
        x.action(0, 0, 63, 0, 1, 1);
        DUE.is(0, x.ofAction(13, 3));
    }

    /** With a COST, 1 to 50. */
    private static void costIs1To50() {
        CachehallDesk x = new CachehallDesk();
        DUE.refuses(Due.ARGUMENT, () -> x.action(0, 0, 0, 0, 0, 1));
        DUE.is(0, x.action(0, 0, 0, 0, 1, 1));
        DUE.is(1, x.action(0, 0, 0, 0, 50, 1));
        DUE.refuses(Due.ARGUMENT, () -> x.action(0, 0, 0, 0, 51, 1));
        DUE.is(1, x.ofAction(0, 4));
        DUE.is(50, x.ofAction(1, 4));
    }

    /** And a SIZE, 1 to 20. */
    private static void sizeIs1To20() {
        CachehallDesk x = new CachehallDesk();
        DUE.refuses(Due.ARGUMENT, () -> x.action(0, 0, 0, 0, 1, 0));
        DUE.is(0, x.action(0, 0, 0, 0, 1, 1));
        DUE.is(1, x.action(0, 0, 0, 0, 1, 20));
        DUE.refuses(Due.ARGUMENT, () -> x.action(0, 0, 0, 0, 1, 21));
        DUE.is(1, x.ofAction(0, 5));
        DUE.is(20, x.ofAction(1, 5));
    }

    /** Leaves ACTION 0 with 7 * (a + 2 * b) + 3 * c ahead of the % 997. */
    private static CachehallDesk summing(int a, int b, int c) {
        CachehallDesk x = new CachehallDesk();
        x.action(3, 0, 1, 0, 1, 1);
        x.file(0, a);
        x.file(1, b);
        x.set(0, c);
        x.team(100);
        return x;
    }

    /** The PRINT: (...) % 997. */
    private static void printIsTakenModulo997() {
        // a, b, c, and what comes of 995, 996, 997, 998, 1993, 1994
        int[][] sums = {{98, 21, 5, 995}, {99, 21, 3, 996}, {98, 22, 1, 0}, {98, 21, 6, 1},
            {85, 99, 4, 996}, {86, 99, 2, 0}};
        for (int[] sum : sums) {
            CachehallDesk x = Halls.withWorkers(summing(sum[0], sum[1], sum[2]), 0);
            DUE.is(sum[3], x.ofAction(0, 6));
            DUE.is(sum[3], x.build(0, 0));
        }
    }

    /** The PRINT of an ACTION that READS nothing is (31 * its number) % 997. */
    private static void printOfWhatReadsNothing() {
        CachehallDesk x = Halls.withWorkers(Halls.plain(0, 1, 1, 100), 0);
        for (int number = 0; number < 14; number++) {
            x.action(0, 0, 0, 0, 1, 1);
            x.file(number % 8, 99);
            x.set(number % 6, 9);
            DUE.is(31 * number, x.ofAction(number, 6));
            DUE.is(31 * number, x.build(0, number));
        }
    }

    /** The PRINT, with each number in it at its most. */
    private static void printOfOneThatReadsAllIsWithoutOverflow() {
        CachehallDesk x = Halls.withWorkers(Halls.plain(0, 1, 1, 100), 0);
        for (int file = 0; file <= 7; file++) {
            x.file(file, 99);
        }
        for (int setting = 0; setting <= 5; setting++) {
            x.set(setting, 9);
        }
        long[] prints = new long[14];
        for (int number = 0; number < 14; number++) {
            x.action(255, (1 << number) - 1, 63, 0, 1, 1);
            long sum = 31 * number + 7 * 36 * 99 + 3 * 21 * 9;
            for (int read = 0; read < number; read++) {
                sum += 5 * (read + 2) * prints[read];
            }
            prints[number] = sum % 997;
            DUE.is((int) prints[number], x.ofAction(number, 6));
        }
        DUE.is((int) prints[13], x.build(0, 13));
        DUE.is(14, x.many(3));
    }

    /** With the PRINT that was got of each, though another one would come of it now. */
    private static void printThatWasGotOfEach() {
        CachehallDesk x = Halls.withWorkers(Halls.plain(1, 1, 1, 100), 2);
        x.action(0, 1, 0, 0, 1, 1);
        x.build(0, 0);
        x.file(0, 1);
        // the second RUN: 7 + 1, and then 31 + 5 * 2 * 8
        DUE.is(111, x.build(0, 1));
        DUE.is(101, x.ofAction(1, 6));
    }

    /** An object is used for at most 512 calls: the last of them answers as the first did. */
    private static void theCallsGoTo512() {
        CachehallDesk x = Halls.withWorkers(Halls.plain(1, 1, 1, 100), 0);
        for (int call = 4; call <= 511; call++) {
            DUE.is(0, x.build(0, 0));
        }
        DUE.is(507, x.many(7));
        CachehallDesk y = new CachehallDesk();
        for (int call = 1; call <= 511; call++) {
            DUE.is(call == 1 ? 0 : (call - 1) % 100, y.file(7, call % 100));
        }
        DUE.is(11, y.file(7, 0));
    }

    // ---- 2. Workers

    /** At most 4 WORKERS, numbered from 0. */
    private static void atMost4WorkersNumberedFrom0() {
        CachehallDesk x = new CachehallDesk();
        for (int number = 0; number < 4; number++) {
            int next = number;
            DUE.refuses(Due.INDEX, () -> x.ofWorker(next, 0));
            DUE.is(number, x.worker(0));
        }
        DUE.refuses(Due.STATE, () -> x.worker(0));
        DUE.refuses(Due.INDEX, () -> x.ofWorker(4, 0));
        DUE.is(4, x.many(1));
    }

    /** Each with a TRUST (50 at first). */
    private static void trustIs50AtFirst() {
        CachehallDesk x = Halls.withWorkers(Halls.plain(1, 1, 1, 100), 0);
        x.build(0, 0);
        x.worker(9);
        x.recheck(0);
        x.worker(0);
        DUE.is(55, x.ofWorker(0, 0));
        DUE.is(50, x.ofWorker(1, 0));
        DUE.is(50, x.ofWorker(2, 0));
    }

    /** And a FAULT, 0 to 9. */
    private static void faultIs0To9() {
        CachehallDesk x = new CachehallDesk();
        DUE.refuses(Due.ARGUMENT, () -> x.worker(-1));
        DUE.refuses(Due.ARGUMENT, () -> x.worker(10));
        DUE.is(0, x.worker(0));
        DUE.is(1, x.worker(9));
    }

    /** With a FAULT n above 0 each n-th RUN of that WORKER gives the PRINT + 1; with 0 none does. */
    private static void eachNthRun() {
        for (int fault = 0; fault <= 9; fault++) {
            CachehallDesk x = Halls.withWorkers(Halls.plain(1, 1, 1, 100), fault);
            for (int run = 1; run <= 30; run++) {
                x.file(0, run);
                int more = fault > 0 && run % fault == 0 ? 1 : 0;
                DUE.is(7 * run + more, x.build(0, 0));
            }
        }
    }

    /** Of all of its RUNS ever: of any ACTION, for any TEAM, and those to CHECK, but of that WORKER alone. */
    private static void ofAllOfItsRunsEver() {
        CachehallDesk x = Halls.withWorkers(Halls.plain(4, 1, 1, 100), 4, 0);
        x.team(100);
        x.build(0, 0);
        // The other one is less BUSY.
        x.build(0, 1);
        DUE.is(1, x.ofEntry(1, 1));
        DUE.is(1, x.recheck(1));
        x.build(1, 2);
        DUE.is(1, x.ofEntry(2, 1));
        DUE.is(1, x.recheck(2));
        DUE.is(3, x.ofWorker(0, 1));
        // The fourth of WORKER 0: its third to CHECK
        DUE.is(2, x.recheck(2));
        DUE.is(63, x.ofEntry(3, 3));
        DUE.is(4, x.ofWorker(0, 1));
    }

    /** Of all of its RUNS ever: what could not be built, or only would be, is none. */
    private static void whatIsNotBuiltIsNoRun() {
        CachehallDesk x = Halls.withWorkers(Halls.plain(1, 1, 1, 100), 0);
        x.action(0, 1, 0, 0, 1, 1);
        for (int n = 0; n < 59; n++) {
            x.file(0, n);
            x.build(0, 0);
        }
        x.mend(0, 4);
        x.file(0, 59);
        DUE.refuses(Due.STATE, () -> x.build(0, 1));
        DUE.is(1, x.wouldRun(0, 0));
        DUE.is(true, x.wouldBeWrong(0, 0));
        DUE.is(59, x.ofWorker(0, 1));
        // the 60th RUN, and so a fourth one
        DUE.is(7 * 59 + 1, x.build(0, 0));
    }

    /** The PRINT that comes + 1 (0 behind 996). */
    private static void zeroBehind996() {
        DUE.is(996, Halls.withWorkers(summing(98, 21, 5), 1).build(0, 0));
        DUE.is(0, Halls.withWorkers(summing(99, 21, 3), 1).build(0, 0));
        DUE.is(1, Halls.withWorkers(summing(98, 22, 1), 1).build(0, 0));
        // To CHECK, too.
        CachehallDesk x = Halls.withWorkers(summing(99, 21, 3), 0, 1);
        DUE.is(996, x.build(0, 0));
        DUE.is(2, x.recheck(0));
        DUE.is(0, x.ofEntry(1, 3));
    }

    /** A RUN costs the COST of its ACTION; a WORKER is BUSY with the sum of these. */
    private static void aRunCostsTheCost() {
        CachehallDesk x = new CachehallDesk();
        x.action(1, 0, 0, 0, 1, 1);
        x.action(1, 0, 0, 0, 50, 1);
        x.team(100);
        x.worker(0);
        DUE.is(0, x.ofWorker(0, 2));
        x.build(0, 0);
        DUE.is(1, x.ofWorker(0, 2));
        x.build(0, 1);
        DUE.is(51, x.ofWorker(0, 2));
        x.build(0, 1);
        DUE.is(51, x.ofWorker(0, 2));
        x.worker(0);
        x.recheck(1);
        DUE.is(51, x.ofWorker(0, 2));
        DUE.is(50, x.ofWorker(1, 2));
    }

    /** Of those with a TRUST of 20 or more: 20 is enough. */
    private static void trustOf20OrMore() {
        CachehallDesk x = Halls.withWorkers(Halls.plain(1, 1, 1, 100), 1);
        x.build(0, 0);
        x.worker(0);
        DUE.is(2, x.recheck(0));
        DUE.is(20, x.ofWorker(0, 0));
        // Only WORKER 0 did not make ENTRY 1.
        DUE.is(2, x.recheck(1));
        DUE.is(1, x.ofWorker(0, 4));
    }

    /** Of those with a TRUST of 20 or more: 15 is not enough. */
    private static void trustOf15IsLessThan20() {
        CachehallDesk x = Halls.withATrustOf15();
        DUE.is(15, x.ofWorker(0, 0));
        DUE.is(0, x.recheck(2));
        DUE.is(0, x.recheck(3));
        DUE.is(0, x.ofWorker(0, 4));
        DUE.is(15, x.mend(0, 0));
        DUE.is(2, x.recheck(2));
        DUE.is(1, x.ofWorker(0, 4));
    }

    /** That with the greatest TRUST, by the least that can be between two, and though it is more BUSY. */
    private static void thatWithTheGreatestTrust() {
        CachehallDesk x = Halls.withWorkers(Halls.plain(5, 9, 1, 100), 0, 0, 0);
        x.build(0, 0);
        x.build(0, 1);
        DUE.is(1, x.ofEntry(1, 1));
        x.recheck(1);
        DUE.is(55, x.ofWorker(1, 0));
        for (int action = 2; action < 5; action++) {
            x.build(0, action);
            DUE.is(1, x.ofEntry(action, 1));
        }
        DUE.is(36, x.ofWorker(1, 2));
    }

    /** Of several that which is the least BUSY, by the least that can be between two. */
    private static void whichIsTheLeastBusy() {
        CachehallDesk x = new CachehallDesk();
        x.action(1, 0, 0, 0, 3, 1);
        x.action(2, 0, 0, 0, 2, 1);
        x.action(4, 0, 0, 0, 1, 1);
        x.team(100);
        Halls.withWorkers(x, 0, 0);
        x.build(0, 0);
        x.build(0, 1);
        x.build(0, 2);
        // 3 and 0, 3 and 2
        DUE.is(1, x.ofEntry(1, 1));
        DUE.is(1, x.ofEntry(2, 1));
        // 3 and 3, and then 4 and 3, 4 and 5
        x.file(2, 1);
        x.build(0, 2);
        DUE.is(0, x.ofEntry(3, 1));
        x.file(1, 1);
        x.build(0, 1);
        DUE.is(1, x.ofEntry(4, 1));
        x.file(2, 2);
        x.build(0, 2);
        DUE.is(0, x.ofEntry(5, 1));
    }

    /** Then the smallest number. */
    private static void thenTheSmallestNumber() {
        CachehallDesk x = Halls.withWorkers(Halls.plain(8, 1, 1, 100), 0, 0, 0, 0);
        for (int n = 0; n < 8; n++) {
            x.build(0, n);
            DUE.is(n % 4, x.ofEntry(n, 1));
        }
        // All are as BUSY: of all but the one that made it, the smallest CHECKS.
        x.recheck(0);
        DUE.is(1, x.ofWorker(1, 4));
    }

    // ---- 3. The cache

    /** At most 60 ENTRIES ever, numbered from 0. */
    private static void atMost60EntriesEver() {
        CachehallDesk x = Halls.withWorkers(Halls.plain(1, 1, 1, 100), 0);
        for (int n = 0; n < 60; n++) {
            int next = n;
            DUE.refuses(Due.INDEX, () -> x.ofEntry(next, 3));
            x.file(0, n);
            x.build(0, 0);
            DUE.is(7 * n, x.ofEntry(n, 3));
        }
        x.file(0, 60);
        DUE.refuses(Due.STATE, () -> x.build(0, 0));
        DUE.refuses(Due.INDEX, () -> x.ofEntry(60, 3));
        DUE.is(60, x.many(3));
    }

    /** ENTRIES ever: those that have GONE, or are POISONED, too. */
    private static void goneAndPoisonedEntriesAreOfThe60() {
        CachehallDesk x = Halls.withWorkers(Halls.plain(1, 1, 2, 1), 0);
        for (int n = 0; n < 60; n++) {
            DUE.is(0, x.build(0, 0));
        }
        DUE.is(60, x.many(5));
        DUE.refuses(Due.STATE, () -> x.build(0, 0));
        CachehallDesk y = Halls.withWorkers(Halls.plain(1, 1, 1, 100), 1, 0);
        DUE.is(1, y.build(0, 0));
        // Each holds what the other one made for WRONG.
        for (int n = 0; n < 59; n++) {
            DUE.is(2, y.recheck(n));
            y.mend(0, 1);
            y.mend(1, 0);
        }
        DUE.is(59, y.many(6));
        DUE.is(60, y.many(3));
        y.file(0, 1);
        DUE.refuses(Due.STATE, () -> y.build(0, 0));
    }

    /** With its KEY: the CONTENTS of the FILES that the ACTION READS. */
    private static void contentsOfTheFilesThatTheActionReads() {
        for (int read = 0; read <= 7; read++) {
            CachehallDesk x = new CachehallDesk();
            x.action(1 << read, 0, 0, 0, 1, 1);
            x.team(100);
            x.worker(0);
            x.build(0, 0);
            for (int file = 0; file <= 7; file++) {
                x.file(file, 1);
                DUE.is(file == read ? 1 : 0, x.wouldRun(0, 0));
                x.file(file, 0);
            }
            DUE.is(0, x.wouldRun(0, 0));
        }
    }

    /** And the VALUES of the SETTINGS that it READS. */
    private static void valuesOfTheSettingsThatItReads() {
        for (int read = 0; read <= 5; read++) {
            CachehallDesk x = new CachehallDesk();
            x.action(0, 0, 1 << read, 0, 1, 1);
            x.team(100);
            x.worker(0);
            x.build(0, 0);
            for (int setting = 0; setting <= 5; setting++) {
                x.set(setting, 1);
                DUE.is(setting == read ? 1 : 0, x.wouldRun(0, 0));
                x.set(setting, 0);
            }
            DUE.is(0, x.wouldRun(0, 0));
        }
    }

    /** But those that are LEFT OUT. */
    private static void butThoseThatAreLeftOut() {
        for (int out = 0; out <= 5; out++) {
            CachehallDesk x = new CachehallDesk();
            x.action(0, 0, 63, 1 << out, 1, 1);
            x.team(100);
            x.worker(0);
            x.build(0, 0);
            for (int setting = 0; setting <= 5; setting++) {
                x.set(setting, 1);
                DUE.is(setting == out ? 0 : 1, x.wouldRun(0, 0));
                x.set(setting, 0);
            }
        }
        // If all are LEFT OUT, nothing is in the KEY: each is a HIT.
        CachehallDesk y = new CachehallDesk();
        y.action(0, 0, 63, 63, 1, 1);
        y.team(100);
        y.worker(0);
        y.build(0, 0);
        for (int setting = 0; setting <= 5; setting++) {
            y.set(setting, 9);
            DUE.is(0, y.wouldRun(0, 0));
        }
    }

    /** The PRINTS that were got of the ACTIONS: those that it READS, and none else. */
    private static void printsThatWereGotOfTheActions() {
        for (int read = 0; read < 4; read++) {
            CachehallDesk x = Halls.withWorkers(Halls.plain(4, 1, 1, 100), 0);
            x.action(0, 1 << read, 0, 0, 1, 1);
            x.action(0, 31, 0, 0, 1, 1);
            x.build(0, 5);
            for (int file = 0; file < 4; file++) {
                x.file(file, 1);
                x.build(0, file);
                DUE.is(file == read ? 1 : 0, x.wouldRun(0, 4));
                x.file(file, 0);
            }
            DUE.is(0, x.wouldRun(0, 4));
        }
    }

    /** With the ENTRIES from which those PRINTS were got: by a RUN, or by a HIT, whatever was got before. */
    private static void theEntriesFromWhichThosePrintsWereGot() {
        CachehallDesk x = Halls.withWorkers(Halls.plain(1, 1, 1, 100), 0);
        x.action(2, 1, 0, 0, 1, 1);
        x.build(0, 1);
        DUE.is(0, x.from(1, 0));
        x.file(0, 1);
        x.build(0, 0);
        x.file(0, 0);
        x.file(1, 1);
        x.build(0, 1);
        DUE.is(0, x.from(3, 0));
        x.file(0, 1);
        x.build(0, 1);
        DUE.is(2, x.from(4, 0));
        DUE.is(2, x.ofEntry(0, 7));
        DUE.is(1, x.ofEntry(2, 7));
    }

    /** An ENTRY is KEPT (0), has GONE (1), or is POISONED (2): only the first is a HIT. */
    private static void keptGoneOrPoisoned() {
        CachehallDesk x = Halls.withWorkers(Halls.plain(1, 1, 1, 100), 1);
        x.build(0, 0);
        DUE.states(x, 0);
        DUE.is(0, x.wouldRun(0, 0));
        x.quota(0, 0);
        x.quota(0, 100);
        DUE.states(x, 1);
        DUE.is(1, x.wouldRun(0, 0));
        x.build(0, 0);
        x.worker(0);
        x.recheck(1);
        DUE.states(x, 1, 2, 0);
        DUE.is(0, x.wouldRun(0, 0));
        x.quota(0, 0);
        x.quota(0, 100);
        DUE.states(x, 1, 2, 1);
        DUE.is(1, x.wouldRun(0, 0));
    }
}
