/**
 * The sentences of the Terms, sections 4 to 6, that name a boundary case, in their order: each test has
 * above it the words of the document that would be broken if it failed.
 */
final class EdgesOfSections4To6Test {
    private static final Due DUE = new Due();

    public static void main(String[] args) {
        toBuild();
        toCheck();
        quotas();
        DUE.end();
    }

    private static void toBuild() {
        ofAllThatItReadsAndTheseRead();
        aHitMoreAndTheTeamSavedTheCost();
        check0IsNone();
        check1IsEach();
        check9IsEachNinthOfAllHitsEver();
        aPrintIsGotAlsoIfTheEntryHasGone();
        ifNoWorkerCanBeChosen();
        sixtyEntriesAreBuiltAndNotMore();
        ifNothingIsBuiltAllIsAsItWas();
        ifNothingIsBuiltNothingHasGone();
    }

    private static void toCheck() {
        allButTheOneThatMadeTheEntry();
        ifNoneCanBeChosenItIsNotChecked();
        noneCanBeChosenWithLessThan20();
        trustIs5MoreAnd100AtMost();
        trustIs30LessAnd0AtTheLeast();
        oneThatIsLeftOutHasAnotherValue();
        allThoseThatHaveAnotherValue();
        anotherValueThanAsTheEntryWasMade();
        aSettingThatIsNotReadIsNotLeftOut();
        aSettingThatIsNotLeftOutAnyMoreStaysSo();
        allKeptEntriesOfThatActionHaveGone();
        andSoOnKeptOrGone();
        theNewEntryIsForTheTeamThatBuilds();
        theNewEntryIsTooLargeForTheTeamThatBuilds();
        theNewEntryTakesThePlaceOfThePoisonedOne();
    }

    private static void quotas() {
        atMost4TeamsNumberedFrom0();
        quotaIs0To100();
        aTeamUsesWhatIsKept();
        goneAtOnceIfMoreThanTheQuota();
        whatHasGoneAtOnceMakesNoneGo();
        asLongAsItWouldUseMoreThanItsQuota();
        theOneWithTheLeastWorth();
        ofSeveralTheSmallestNumber();
        ofTheEntriesOfTheTeam();
        worthIsCutTowards0();
        worthAtItsMost();
    }

    // ---- 4. To build

    /** Of that, and of all that it READS, and these READ, and so on, one by one, by numbers. */
    private static void ofAllThatItReadsAndTheseRead() {
        // Of all 14 each one READS the one before alone.
        CachehallDesk x = Halls.withWorkers(Halls.plain(1, 1, 1, 100), 0);
        for (int n = 1; n < 14; n++) {
            x.action(0, 1 << (n - 1), 0, 0, 1, 1);
        }
        x.build(0, 13);
        DUE.is(14, x.many(3));
        for (int n = 0; n < 14; n++) {
            DUE.is(n, x.ofEntry(n, 0));
        }
        // Of 14 that READ nothing it is one.
        CachehallDesk y = Halls.withWorkers(Halls.plain(0, 1, 1, 100), 0);
        for (int n = 0; n < 14; n++) {
            y.action(0, 0, 0, 0, 1, 1);
        }
        y.build(0, 13);
        y.build(0, 0);
        DUE.is(2, y.many(3));
        DUE.is(13, y.ofEntry(0, 0));
        DUE.is(0, y.ofEntry(1, 0));
        // What is READ twice is got once, and what lies between is not got.
        CachehallDesk z = Halls.withWorkers(Halls.plain(4, 1, 1, 100), 0);
        z.action(0, 5, 0, 0, 1, 1);
        z.action(0, 21, 0, 0, 1, 1);
        z.build(0, 5);
        int[] due = {0, 2, 4, 5};
        DUE.is(due.length, z.many(3));
        for (int n = 0; n < due.length; n++) {
            DUE.is(due[n], z.ofEntry(n, 0));
        }
    }

    /** It has a HIT more; the TEAM SAVED the COST. */
    private static void aHitMoreAndTheTeamSavedTheCost() {
        CachehallDesk x = new CachehallDesk();
        x.action(0, 0, 0, 0, 50, 1);
        x.action(0, 1, 0, 0, 1, 1);
        x.team(100);
        x.team(0);
        x.worker(0);
        x.build(0, 1);
        DUE.is(0, x.ofEntry(0, 4));
        DUE.is(0, x.ofTeam(0, 2));
        x.build(1, 1);
        DUE.is(1, x.ofEntry(0, 4));
        DUE.is(1, x.ofEntry(1, 4));
        DUE.is(51, x.ofTeam(1, 2));
        DUE.is(0, x.ofTeam(0, 2));
        x.build(0, 0);
        DUE.is(2, x.ofEntry(0, 4));
        DUE.is(50, x.ofTeam(0, 2));
        DUE.is(51, x.ofTeam(1, 2));
    }

    /** CHECK (0 to 9, 0: none is; 0 at first). */
    private static void check0IsNone() {
        CachehallDesk x = Halls.withWorkers(Halls.plain(1, 1, 1, 100), 0, 0);
        for (int n = 0; n < 20; n++) {
            x.build(0, 0);
        }
        DUE.is(1, x.many(8));
        DUE.is(0, x.check(1));
        x.check(0);
        for (int n = 0; n < 20; n++) {
            x.build(0, 0);
        }
        DUE.is(39, x.many(7));
        DUE.is(1, x.many(8));
    }

    /** Each HIT is CHECKED with 1, each one of a BUILD. */
    private static void check1IsEach() {
        CachehallDesk x = Halls.withWorkers(Halls.plain(1, 1, 1, 100), 0);
        x.action(0, 1, 0, 0, 1, 1);
        x.action(0, 3, 0, 0, 1, 1);
        x.build(0, 2);
        x.worker(0);
        x.check(1);
        x.build(0, 2);
        DUE.is(3, x.ofWorker(1, 4));
        DUE.is(65, x.ofWorker(0, 0));
        x.build(0, 0);
        DUE.is(4, x.ofWorker(1, 4));
    }

    /** Each HIT with which the number of all HITS ever is a multiple of CHECK. */
    private static void check9IsEachNinthOfAllHitsEver() {
        CachehallDesk x = Halls.withWorkers(Halls.plain(2, 1, 1, 100), 0);
        x.team(100);
        x.build(0, 0);
        x.build(1, 1);
        x.worker(0);
        x.check(9);
        for (int hit = 1; hit <= 27; hit++) {
            // of any ENTRY, by any TEAM
            x.build(hit % 2, hit / 2 % 2);
            DUE.is(hit / 9, x.ofWorker(1, 4));
        }
        // The HITS ever count, not those since CHECK was told: 28 is one of 7, 29 and 30 are not.
        x.check(7);
        x.build(0, 0);
        DUE.is(4, x.ofWorker(1, 4));
        x.build(0, 0);
        x.build(0, 0);
        DUE.is(4, x.ofWorker(1, 4));
        // Those of ENTRIES that have GONE count, too: 31 is none of 8, 32 is.
        x.check(8);
        x.quota(0, 0);
        x.quota(0, 100);
        x.build(0, 1);
        DUE.is(4, x.ofWorker(1, 4));
        x.build(0, 1);
        DUE.is(5, x.ofWorker(1, 4));
    }

    /** There is a new ENTRY whose PRINT is got (also if it has GONE). */
    private static void aPrintIsGotAlsoIfTheEntryHasGone() {
        CachehallDesk x = Halls.withWorkers(Halls.plain(1, 1, 1, 0), 0);
        x.action(0, 1, 0, 0, 1, 1);
        x.file(0, 1);
        DUE.is(101, x.build(0, 1));
        DUE.states(x, 1, 1);
        DUE.is(0, x.from(1, 0));
        DUE.is(101, x.build(0, 1));
        DUE.states(x, 1, 1, 1, 1);
        DUE.is(2, x.from(3, 0));
    }

    /** If no WORKER can be chosen where one is needed, nothing is built: all is as it was ahead of it. */
    private static void ifNoWorkerCanBeChosen() {
        CachehallDesk x = Halls.plain(1, 1, 1, 100);
        DUE.refuses(Due.STATE, () -> x.build(0, 0));
        DUE.is(0, x.many(3));
        DUE.is(0, x.ofTeam(0, 3));
        x.worker(0);
        DUE.is(0, x.build(0, 0));
        DUE.is(1, x.ofTeam(0, 3));
    }

    /** Or there would be more than 60 ENTRIES: 60 are built. */
    private static void sixtyEntriesAreBuiltAndNotMore() {
        for (int ahead = 56; ahead <= 59; ahead++) {
            CachehallDesk x = Halls.withWorkers(Halls.plain(2, 1, 1, 100), 0);
            x.action(0, 2, 0, 0, 1, 1);
            x.action(0, 4, 0, 0, 1, 1);
            for (int n = 0; n < ahead; n++) {
                x.file(0, n);
                x.build(0, 0);
            }
            // The last READS the one before, and so on: 1, 2 or 3 ENTRIES
            for (int action = 1; action <= 3; action++) {
                DUE.is(ahead + action <= 60 ? action : -1, x.wouldRun(0, action));
            }
            if (ahead + 3 <= 60) {
                x.build(0, 3);
                DUE.is(ahead + 3, x.many(3));
            } else {
                DUE.refuses(Due.STATE, () -> x.build(0, 3));
                DUE.is(ahead, x.many(3));
            }
        }
    }

    /** All is as it was ahead of it: HITS, what was SAVED, RUNS, TRUST, what is LEFT OUT, states. */
    private static void ifNothingIsBuiltAllIsAsItWas() {
        CachehallDesk x = new CachehallDesk();
        x.action(1, 0, 0, 0, 3, 1);
        x.action(2, 0, 1, 1, 5, 1);
        x.action(4, 3, 0, 0, 7, 1);
        x.action(8, 0, 0, 0, 1, 1);
        x.team(100);
        Halls.withWorkers(x, 0, 0);
        x.build(0, 2);
        for (int n = 0; n < 56; n++) {
            x.file(3, n);
            x.build(0, 3);
        }
        x.set(0, 1);
        x.file(2, 1);
        x.check(1);
        DUE.is(59, x.many(3));
        long before = x.digest();
        // A CHECK of 0 is right, 1 is WRONG by what is LEFT OUT, 2 would be the 61st.
        DUE.refuses(Due.STATE, () -> x.build(0, 2));
        DUE.is(before, x.digest());
        DUE.is(0, x.many(7));
        DUE.is(59, x.many(8));
        DUE.is(0, x.many(9));
        DUE.is(0, x.ofTeam(0, 2));
        DUE.is(57, x.ofTeam(0, 3));
        DUE.is(1, x.ofAction(1, 3));
        DUE.is(59, x.many(4));
        for (int worker = 0; worker < 2; worker++) {
            DUE.is(50, x.ofWorker(worker, 0));
            DUE.is(0, x.ofWorker(worker, 3));
            DUE.is(0, x.ofWorker(worker, 4));
        }
        // 1 alone is WRONG just so, and there is room for it.
        DUE.is(31 + 3, x.build(0, 1));
        DUE.is(60, x.many(3));
        DUE.is(0, x.ofAction(1, 3));
        DUE.is(2, x.many(6));
    }

    /** All is as it was ahead of it: what had to go for an ENTRY that did not come is KEPT. */
    private static void ifNothingIsBuiltNothingHasGone() {
        CachehallDesk x = Halls.withWorkers(Halls.plain(1, 1, 20, 100), 0);
        x.action(0, 1, 0, 0, 1, 1);
        for (int n = 0; n < 59; n++) {
            x.file(0, n);
            x.build(0, 0);
        }
        x.file(0, 59);
        DUE.is(5, x.many(4));
        DUE.refuses(Due.STATE, () -> x.build(0, 1));
        DUE.is(5, x.many(4));
        DUE.is(0, x.ofEntry(54, 5));
        x.file(0, 54);
        DUE.is(0, x.wouldRun(0, 0));
    }

    // ---- 5. To check

    /** By the WORKER that is chosen of all but the one that made the ENTRY. */
    private static void allButTheOneThatMadeTheEntry() {
        CachehallDesk x = Halls.withWorkers(Halls.plain(1, 1, 1, 100), 0);
        x.build(0, 0);
        Halls.withWorkers(x, 0, 0, 0);
        for (int n = 1; n <= 7; n++) {
            DUE.is(1, x.recheck(0));
            // It has the greatest TRUST, but does not CHECK itself; the others take turns.
            DUE.is(50 + 5 * n, x.ofWorker(0, 0));
            for (int worker = 1; worker < 4; worker++) {
                DUE.is((n + 3 - worker) / 3, x.ofWorker(worker, 4));
            }
        }
        DUE.is(0, x.ofWorker(0, 4));
    }

    /** If none can be chosen, it is not CHECKED: the HIT stands. */
    private static void ifNoneCanBeChosenItIsNotChecked() {
        CachehallDesk x = Halls.withWorkers(Halls.plain(1, 1, 1, 100), 1);
        x.check(1);
        DUE.is(1, x.build(0, 0));
        DUE.is(1, x.build(0, 0));
        DUE.is(0, x.recheck(0));
        DUE.is(1, x.many(7));
        DUE.is(1, x.many(8));
        DUE.is(50, x.ofWorker(0, 0));
        DUE.states(x, 0);
    }

    /** If none can be chosen: all others have a TRUST of less than 20. */
    private static void noneCanBeChosenWithLessThan20() {
        CachehallDesk x = Halls.withATrustOf15();
        x.check(1);
        int runs = x.many(8);
        DUE.is(1, x.build(0, 0));
        DUE.is(1, x.ofEntry(2, 4));
        DUE.is(runs, x.many(8));
        DUE.is(0, x.recheck(2));
        DUE.is(runs, x.many(8));
        DUE.states(x, 2, 2, 0, 0);
        x.worker(1);
        DUE.is(1, x.build(0, 0));
        DUE.is(runs + 1, x.many(8));
        DUE.is(1, x.recheck(2));
        DUE.is(2, x.ofWorker(2, 4));
    }

    /** The TRUST of the WORKER that made the ENTRY is 5 more (100 at most). */
    private static void trustIs5MoreAnd100AtMost() {
        CachehallDesk x = Halls.withWorkers(Halls.plain(1, 1, 1, 100), 0);
        x.build(0, 0);
        x.worker(0);
        int[] due = {55, 60, 65, 70, 75, 80, 85, 90, 95, 100, 100, 100};
        for (int trust : due) {
            DUE.is(1, x.recheck(0));
            DUE.is(trust, x.ofWorker(0, 0));
        }
        // By HITS, too, and 30 less than 100 is 70.
        x.check(1);
        x.build(0, 0);
        DUE.is(100, x.ofWorker(0, 0));
        x.mend(1, 1);
        x.build(0, 0);
        DUE.is(70, x.ofWorker(0, 0));
    }

    /** The TRUST of the WORKER that made it is 30 less (0 at the least): of 50 to 30 before the last. */
    private static void trustIs30LessAnd0AtTheLeast() {
        int[] right = {0, 1, 2, 3};
        int[] once = {20, 25, 30, 35};
        int[] twice = {0, 0, 0, 5};
        for (int k = 0; k < right.length; k++) {
            CachehallDesk x = Halls.withWorkers(Halls.plain(2, 1, 1, 100), 0);
            x.build(0, 0);
            x.build(0, 1);
            x.worker(0);
            for (int n = 0; n < right[k]; n++) {
                x.recheck(0);
            }
            x.mend(1, 1);
            DUE.is(2, x.recheck(0));
            DUE.is(once[k], x.ofWorker(0, 0));
            DUE.is(2, x.recheck(1));
            DUE.is(twice[k], x.ofWorker(0, 0));
            DUE.is(50, x.ofWorker(1, 0));
        }
    }

    /** One ACTION that READS SETTINGS 0 to 3 of which 1 to 3 are LEFT OUT, and is built with all at 5. */
    private static CachehallDesk leavingOut() {
        CachehallDesk x = new CachehallDesk();
        x.action(1, 0, 15, 14, 1, 1);
        for (int setting = 0; setting <= 5; setting++) {
            x.set(setting, 5);
        }
        x.team(100);
        Halls.withWorkers(x, 0, 0);
        DUE.is(150, x.build(0, 0));
        return x;
    }

    /** If of the SETTINGS that the ACTION leaves out one has another VALUE: otherwise it is the WORKER. */
    private static void oneThatIsLeftOutHasAnotherValue() {
        for (int setting = 1; setting <= 3; setting++) {
            CachehallDesk x = leavingOut();
            x.set(setting, setting == 2 ? 4 : 6);
            DUE.is(2, x.recheck(0));
            DUE.is(14 - (1 << setting), x.ofAction(0, 3));
            DUE.is(50, x.ofWorker(0, 0));
            DUE.states(x, 2, 0);
        }
        CachehallDesk y = leavingOut();
        y.mend(1, 1);
        DUE.is(2, y.recheck(0));
        DUE.is(14, y.ofAction(0, 3));
        DUE.is(20, y.ofWorker(0, 0));
        DUE.states(y, 2, 0);
    }

    /** All those that have another VALUE are not LEFT OUT of it any more, and those that have not stay. */
    private static void allThoseThatHaveAnotherValue() {
        for (int changed = 1; changed < 8; changed++) {
            CachehallDesk x = leavingOut();
            for (int setting = 1; setting <= 3; setting++) {
                x.set(setting, (changed >> (setting - 1) & 1) != 0 ? 9 : 5);
            }
            x.check(1);
            x.build(0, 0);
            DUE.is(14 - 2 * changed, x.ofAction(0, 3));
            DUE.is(x.ofAction(0, 6), x.ofEntry(1, 3));
            x.check(0);
            // Of the KEY of the new one they are now: each makes another one, and the others do not.
            for (int setting = 0; setting <= 3; setting++) {
                int before = x.set(setting, 0);
                boolean out = (14 - 2 * changed >> setting & 1) != 0;
                DUE.is(out ? 0 : 1, x.wouldRun(0, 0));
                x.set(setting, before);
            }
        }
    }

    /** Another VALUE than as the ENTRY was made: what is set back in between is the same. */
    private static void anotherValueThanAsTheEntryWasMade() {
        CachehallDesk x = leavingOut();
        x.set(1, 9);
        x.set(1, 5);
        x.set(2, 9);
        x.set(2, 5);
        x.mend(1, 1);
        DUE.is(2, x.recheck(0));
        DUE.is(14, x.ofAction(0, 3));
        DUE.is(20, x.ofWorker(0, 0));
        // As that ENTRY was made, not as one before it, or the last one.
        CachehallDesk y = leavingOut();
        y.file(0, 1);
        y.set(1, 6);
        y.build(0, 0);
        y.file(0, 2);
        y.set(2, 6);
        y.build(0, 0);
        y.file(0, 1);
        DUE.is(2, y.recheck(1));
        DUE.is(10, y.ofAction(0, 3));
    }

    /** Of the SETTINGS that the ACTION leaves out: what it does not READ is none of them. */
    private static void aSettingThatIsNotReadIsNotLeftOut() {
        CachehallDesk x = leavingOut();
        x.set(4, 0);
        x.set(5, 9);
        DUE.is(1, x.recheck(0));
        x.mend(1, 1);
        DUE.is(2, x.recheck(0));
        DUE.is(14, x.ofAction(0, 3));
        DUE.is(25, x.ofWorker(0, 0));
    }

    /** Are not LEFT OUT of it any more: also as they have that VALUE again, and for all ENTRIES to come. */
    private static void aSettingThatIsNotLeftOutAnyMoreStaysSo() {
        CachehallDesk x = leavingOut();
        x.set(1, 6);
        x.recheck(0);
        x.set(1, 5);
        DUE.is(12, x.ofAction(0, 3));
        DUE.is(150, x.build(0, 0));
        DUE.states(x, 2, 0, 0);
        x.set(1, 6);
        DUE.is(156, x.build(0, 0));
        DUE.states(x, 2, 0, 0);
        // Once none is LEFT OUT any more, it is the WORKER.
        x.set(2, 6);
        x.set(3, 6);
        x.recheck(1);
        DUE.is(0, x.ofAction(0, 3));
        int made = x.many(3) - 1;
        int maker = x.ofEntry(made, 1);
        int trust = x.ofWorker(maker, 0);
        x.mend(1 - maker, 1);
        DUE.is(2, x.recheck(made));
        DUE.is(trust - 30, x.ofWorker(maker, 0));
    }

    /** And all ENTRIES of that ACTION that are KEPT have GONE: of each TEAM, and of no other ACTION. */
    private static void allKeptEntriesOfThatActionHaveGone() {
        CachehallDesk x = leavingOut();
        x.action(1, 0, 15, 14, 1, 1);
        x.action(0, 1, 0, 0, 1, 1);
        x.team(100);
        x.file(0, 1);
        x.build(1, 2);
        x.build(1, 1);
        x.file(0, 2);
        x.build(0, 0);
        DUE.states(x, 0, 0, 0, 0, 0);
        x.set(3, 0);
        DUE.is(2, x.recheck(4));
        // What came of one that has GONE by this is KEPT; other ACTIONS leave out what they did.
        DUE.states(x, 1, 1, 0, 0, 2, 0);
        DUE.is(6, x.ofAction(0, 3));
        DUE.is(14, x.ofAction(1, 3));
        // By the WORKER none has GONE.
        CachehallDesk y = leavingOut();
        y.file(0, 1);
        y.build(0, 0);
        y.mend(1 - y.ofEntry(1, 1), 1);
        DUE.is(2, y.recheck(1));
        DUE.states(y, 0, 2, 0);
    }

    /** All that got a PRINT from it, or from one that did, and so on (KEPT, or GONE). */
    private static void andSoOnKeptOrGone() {
        // A line of 14; the TEAM can keep the last three, and all are POISONED from the sixth on.
        CachehallDesk x = Halls.withWorkers(Halls.plain(1, 1, 1, 100), 0);
        for (int n = 1; n < 14; n++) {
            x.action(0, 1 << (n - 1), 0, 0, 1, n == 6 ? 2 : 1);
        }
        x.build(0, 13);
        DUE.is(1, x.quota(0, 14));
        DUE.is(1, x.ofEntry(6, 5));
        x.worker(1);
        DUE.is(2, x.recheck(5));
        for (int n = 0; n < 14; n++) {
            DUE.is(n < 5 ? 0 : 2, x.ofEntry(n, 5));
        }
        DUE.is(9, x.ofWorker(0, 3));
        DUE.is(0, x.ofEntry(14, 5));
        // ENTRIES: of 0, 2 and 3, and of 1. The last one is POISONED alone.
        CachehallDesk y = Halls.withWorkers(Halls.plain(1, 1, 1, 100), 0);
        y.action(0, 1, 0, 0, 1, 1);
        y.action(0, 1, 0, 0, 1, 1);
        y.action(0, 4, 0, 0, 1, 1);
        y.build(0, 3);
        y.build(0, 1);
        y.worker(1);
        DUE.is(2, y.recheck(3));
        DUE.states(y, 0, 0, 0, 2, 0);
        DUE.is(2, y.recheck(1));
        // Not what has the same source, and not the source.
        DUE.states(y, 0, 2, 2, 2, 0, 0);
    }

    /** What the RUN gave is a new ENTRY, for the TEAM that builds, from the ENTRIES of this BUILD. */
    private static void theNewEntryIsForTheTeamThatBuilds() {
        CachehallDesk x = Halls.withWorkers(Halls.plain(2, 1, 1, 100), 3);
        x.action(0, 3, 0, 0, 9, 1);
        x.team(100);
        DUE.is(528, x.build(0, 2));
        x.quota(0, 1);
        DUE.states(x, 1, 1, 0);
        x.worker(0);
        x.check(1);
        // 0 and 1 are RUN, with the same PRINTS: so 2 is a HIT, and WRONG.
        DUE.is(527, x.build(1, 2));
        DUE.states(x, 1, 1, 2, 0, 0, 0);
        DUE.is(1, x.many(7));
        DUE.is(1, x.ofEntry(5, 2));
        DUE.is(1, x.ofEntry(5, 1));
        DUE.is(0, x.ofEntry(5, 4));
        DUE.is(527, x.ofEntry(5, 3));
        DUE.is(3, x.from(5, 0));
        DUE.is(4, x.from(5, 1));
        DUE.is(0, x.from(2, 0));
        DUE.is(1, x.from(2, 1));
        DUE.is(3, x.ofTeam(1, 4));
        DUE.is(0, x.ofTeam(0, 4));
    }

    /** Is a new ENTRY, whose PRINT is got: also if it has GONE at once. */
    private static void theNewEntryIsTooLargeForTheTeamThatBuilds() {
        CachehallDesk x = Halls.withWorkers(Halls.plain(1, 1, 2, 100), 0, 1);
        x.action(0, 1, 0, 0, 1, 1);
        x.team(1);
        DUE.is(0, x.build(0, 0));
        x.check(1);
        // 1 of ACTION 0, and 31 + 10 of ACTION 1, by the WORKER with the greater TRUST
        DUE.is(42, x.build(1, 1));
        DUE.states(x, 2, 1, 0);
        DUE.is(1, x.ofEntry(1, 3));
        DUE.is(1, x.from(2, 0));
        DUE.is(1, x.ofTeam(1, 1));
    }

    /** The ENTRY is POISONED; and what the RUN gave is a new ENTRY: of a full TEAM none else goes for it. */
    private static void theNewEntryTakesThePlaceOfThePoisonedOne() {
        for (int team = 0; team < 2; team++) {
            CachehallDesk x = Halls.withWorkers(Halls.plain(3, 1, 10, 20), 0);
            x.team(10);
            x.build(0, 0);
            x.build(0, 1);
            x.build(1, 2);
            x.worker(1);
            x.check(1);
            DUE.is(32, x.build(team, 1));
            // For the other TEAM, that is full, its own one goes.
            DUE.states(x, 0, 2, team == 0 ? 0 : 1, 0);
            DUE.is(team == 0 ? 20 : 10, x.ofTeam(0, 1));
            DUE.is(10, x.ofTeam(1, 1));
        }
    }

    // ---- 6. Quotas

    /** At most 4 TEAMS, numbered from 0. */
    private static void atMost4TeamsNumberedFrom0() {
        CachehallDesk x = new CachehallDesk();
        for (int number = 0; number < 4; number++) {
            int next = number;
            DUE.refuses(Due.INDEX, () -> x.ofTeam(next, 0));
            DUE.is(number, x.team(number));
        }
        DUE.refuses(Due.STATE, () -> x.team(0));
        DUE.refuses(Due.INDEX, () -> x.ofTeam(4, 0));
        DUE.is(4, x.many(2));
    }

    /** Each with a QUOTA, 0 to 100. */
    private static void quotaIs0To100() {
        CachehallDesk x = new CachehallDesk();
        DUE.refuses(Due.ARGUMENT, () -> x.team(-1));
        DUE.refuses(Due.ARGUMENT, () -> x.team(101));
        DUE.is(0, x.team(0));
        DUE.is(1, x.team(100));
        DUE.is(0, x.ofTeam(0, 0));
        DUE.is(100, x.ofTeam(1, 0));
    }

    /** A TEAM USES the SIZES of its ENTRIES that are KEPT: not of those that have GONE, or are POISONED. */
    private static void aTeamUsesWhatIsKept() {
        CachehallDesk x = Halls.withWorkers(Halls.plain(3, 1, 20, 100), 1);
        x.team(100);
        DUE.is(0, x.ofTeam(0, 1));
        x.build(0, 0);
        x.build(0, 1);
        x.build(1, 2);
        DUE.is(40, x.ofTeam(0, 1));
        DUE.is(20, x.ofTeam(1, 1));
        x.quota(0, 39);
        DUE.is(20, x.ofTeam(0, 1));
        x.worker(0);
        // ENTRY 1 is POISONED, the new one takes its place, and then has GONE.
        x.recheck(1);
        DUE.is(20, x.ofTeam(0, 1));
        x.quota(0, 0);
        DUE.is(0, x.ofTeam(0, 1));
        DUE.is(20, x.ofTeam(1, 1));
    }

    /** It has GONE at once, if its SIZE is more than the QUOTA of its TEAM: not if it is as much. */
    private static void goneAtOnceIfMoreThanTheQuota() {
        for (int size = 1; size <= 20; size++) {
            for (int quota = size - 1; quota <= size + 1; quota++) {
                CachehallDesk x = Halls.withWorkers(Halls.plain(1, 1, size, quota), 0);
                x.build(0, 0);
                DUE.is(size > quota ? 1 : 0, x.ofEntry(0, 5));
                DUE.is(size > quota ? 0 : size, x.ofTeam(0, 1));
            }
        }
    }

    /** Has GONE at once: the others of the TEAM are KEPT. */
    private static void whatHasGoneAtOnceMakesNoneGo() {
        CachehallDesk x = Halls.withWorkers(Halls.plain(2, 1, 5, 10), 0);
        x.action(0, 0, 0, 0, 50, 11);
        x.build(0, 0);
        x.build(0, 1);
        x.build(0, 2);
        DUE.states(x, 0, 0, 1);
        x.quota(0, 11);
        x.build(0, 2);
        DUE.states(x, 1, 1, 1, 0);
    }

    /** As long as the TEAM would USE more than its QUOTA with it: not as it would be full. */
    private static void asLongAsItWouldUseMoreThanItsQuota() {
        int[] quotas = {20, 19, 17, 16, 14, 13, 11, 10};
        int[] gone = {0, 1, 1, 2, 2, 3, 3, 3};
        for (int k = 0; k < quotas.length; k++) {
            // Three of 3, and one of 11: 20 in all
            CachehallDesk x = Halls.withWorkers(Halls.plain(3, 1, 3, quotas[k]), 0);
            x.action(0, 0, 0, 0, 1, 10);
            x.action(0, 0, 0, 0, 1, 11);
            for (int action = 0; action < 3; action++) {
                x.build(0, action);
            }
            if (quotas[k] > 10) {
                x.build(0, 4);
                DUE.is(0, x.ofEntry(3, 5));
            } else {
                x.build(0, 3);
            }
            DUE.is(gone[k], x.many(5));
            for (int entry = 0; entry < 3; entry++) {
                DUE.is(entry < gone[k] ? 1 : 0, x.ofEntry(entry, 5));
            }
        }
    }

    /** The one with the least WORTH has GONE, by the least that can be between two, and with its HITS. */
    private static void theOneWithTheLeastWorth() {
        CachehallDesk x = new CachehallDesk();
        x.action(1, 0, 0, 0, 11, 10);
        x.action(2, 0, 0, 0, 10, 10);
        x.action(4, 0, 0, 0, 12, 10);
        x.team(30);
        x.worker(0);
        for (int action = 0; action < 3; action++) {
            x.build(0, action);
        }
        // 11, 10, 12
        DUE.is(1, x.quota(0, 29));
        DUE.states(x, 0, 1, 0);
        x.build(0, 0);
        // 22 and 12
        DUE.is(1, x.quota(0, 19));
        DUE.states(x, 0, 1, 1);
    }

    /** Of several the one with the smallest number: of several of that WORTH, not of that COST or SIZE. */
    private static void ofSeveralTheSmallestNumber() {
        CachehallDesk x = new CachehallDesk();
        // WORTH 60, 50, 50, 50, 60: the third is 50.5 and is cut
        x.action(0, 0, 0, 0, 6, 1);
        x.action(0, 0, 0, 0, 10, 2);
        x.action(0, 0, 0, 0, 5, 1);
        x.action(0, 0, 0, 0, 46, 9);
        x.action(0, 0, 0, 0, 12, 2);
        x.team(100);
        x.worker(0);
        for (int action = 4; action >= 0; action--) {
            x.build(0, action);
        }
        // the ENTRIES: of 4, 3, 2, 1, 0, with the SIZES 2, 9, 1, 2, 1
        DUE.is(51, x.ofEntry(1, 6));
        DUE.is(15, x.ofTeam(0, 1));
        DUE.is(1, x.quota(0, 14));
        DUE.states(x, 0, 0, 1, 0, 0);
        DUE.is(1, x.quota(0, 12));
        DUE.states(x, 0, 0, 1, 1, 0);
        DUE.is(1, x.quota(0, 11));
        DUE.states(x, 0, 1, 1, 1, 0);
        // 60 and 60
        DUE.is(1, x.quota(0, 2));
        DUE.states(x, 1, 1, 1, 1, 0);
    }

    /** Of the ENTRIES of the TEAM: those of another are KEPT, though their WORTH is less. */
    private static void ofTheEntriesOfTheTeam() {
        CachehallDesk x = new CachehallDesk();
        x.action(1, 0, 0, 0, 1, 10);
        x.action(2, 0, 0, 0, 50, 10);
        x.action(4, 0, 0, 0, 50, 10);
        x.team(10);
        x.team(10);
        x.worker(0);
        x.build(0, 0);
        x.build(1, 1);
        DUE.states(x, 0, 0);
        x.build(1, 2);
        DUE.states(x, 0, 1, 0);
        DUE.is(10, x.ofTeam(0, 1));
    }

    /** WORTH is COST * (HITS + 1) * 10 / SIZE, and / is cut towards 0. */
    private static void worthIsCutTowards0() {
        // COST, SIZE, and the WORTH with 0 to 4 HITS
        int[][] cases = {{1, 20, 0, 1, 1, 2, 2}, {1, 11, 0, 1, 2, 3, 4}, {1, 10, 1, 2, 3, 4, 5},
            {19, 20, 9, 19, 28, 38, 47}, {1, 1, 10, 20, 30, 40, 50}, {2, 7, 2, 5, 8, 11, 14}};
        for (int[] one : cases) {
            CachehallDesk x = Halls.withWorkers(Halls.plain(1, one[0], one[1], 100), 0);
            for (int hits = 0; hits < 5; hits++) {
                x.build(0, 0);
                DUE.is(hits, x.ofEntry(0, 4));
                DUE.is(one[2 + hits], x.ofEntry(0, 6));
            }
        }
    }

    /** WORTH, with COST and HITS at their most and SIZE at its least. */
    private static void worthAtItsMost() {
        CachehallDesk x = Halls.withWorkers(Halls.plain(1, 50, 1, 100), 0);
        for (int call = 4; call <= 510; call++) {
            x.build(0, 0);
        }
        DUE.is(50 * 507 * 10, x.ofEntry(0, 6));
        DUE.is(506, x.ofEntry(0, 4));
    }
}
