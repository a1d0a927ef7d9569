import java.math.BigInteger;
import java.util.List;
import java.util.function.Supplier;

/**
 * The sentences of the promises 1 to 23 that name a boundary case, in their order: each test has above
 * it the words of the document that would be broken if it failed.
 */
final class EdgesOfCallsTest {
    private static final Due DUE = new Due();

    private interface Call {
        Object answer(CachehallDesk x, int number);
    }

    public static void main(String[] args) {
        whatIsBuilt();
        workersAndTeams();
        building();
        whatWouldBe();
        DUE.end();
    }

    private static void whatIsBuilt() {
        aHallWithoutAny();
        filesIsNot0To255();
        actionsHasOthersThanThoseThatAreThere();
        settingsIsNot0To63();
        outHasOthersThanSettings();
        costIsNot1To50();
        sizeIsNot1To20();
        thereAre14Actions();
        fileReturnsTheOneBefore();
        thereIsNoSuchFile();
        contentIsNot0To99();
        setReturnsTheOneBefore();
        thereIsNoSuchSetting();
        valueIsNot0To9();
        thePrintThatWouldComeWithoutFaults();
        howManyOfItsEntriesAreKept();
        ofActionOfNoSuchAction();
        ofActionOfWhatIsNot0To7();
    }

    private static void workersAndTeams() {
        workerWithAFaultThatIsNot0To9();
        thereAre4Workers();
        ofWorkerOfOneThatDidNothing();
        howManyOfItsRunsWereToCheck();
        howManyEntriesThatItMadeArePoisoned();
        ofWorkerOfNoSuchWorker();
        ofWorkerOfWhatIsNot0To4();
        itsTrustIs50Again();
        itsFaultFromNowOn();
        mendOfNoSuchWorker();
        mendWithAFaultThatIsNot0To9();
        teamWithAQuotaThatIsNot0To100();
        thereAre4Teams();
        asLongAsItUsesMoreThanThat();
        itsQuotaFromNowOn();
        quotaOfNoSuchTeam();
        quotaIsNot0To100();
        ofTeamOfOneThatDidNothing();
        howManyBuildsItDid();
        howManyEntriesOfTheTeamAreKept();
        ofTeamOfNoSuchTeam();
        ofTeamOfWhatIsNot0To4();
    }

    private static void building() {
        buildOfNoSuchTeam();
        buildOfNoSuchAction();
        nothingCanBeBuilt();
        checkReturnsTheOneBefore();
        checkIsNot0To9();
        recheckReturns0IfItCouldNotBeChecked();
        recheckReturns1IfThePrintsAreTheSame();
        recheckReturns2IfItWasWrong();
        recheckCountsNoHit();
        recheckWithThePrintsThatItGot();
        recheckOfNoSuchEntry();
        recheckIfItIsNotKept();
        recheckIfAFileOfItsKeyIsAnotherOneNow();
        recheckIfASettingOfItsKeyIsAnotherOneNow();
        recheckIfThereWere60Entries();
        howManyGotAPrintFromIt();
        ofEntryOfNoSuchEntry();
        ofEntryOfWhatIsNot0To7();
        fromOfNoSuchEntry();
        itsActionDoesNotReadSuchAOne();
        manyIsOfThoseEver();
        manyOfWhatIsNot0To9();
        hitShareIs0WithoutAny();
        hitShareIsNotCut();
    }

    private static void whatWouldBe() {
        noRunIfAllAreHits();
        thoseToCheckToo();
        noneIfNothingCanBeBuilt();
        wouldRunOfNoSuchTeamOrAction();
        whetherThePrintIsAnotherOne();
        falseIfNothingCanBeBuilt();
        wouldBeWrongOfNoSuchTeamOrAction();
        touchedAndSoOn();
        touchedOnlyByWhatIsKept();
        touchedOfNoSuchFile();
        wouldGoIfItIsFull();
        wouldGoIs0IfThatWouldHaveGoneAtOnce();
        wouldGoOfNoSuchTeam();
        wouldGoOfASizeThatIsNot1To20();
        digestOfNothing();
        digestWrapsAroundAs64Bits();
    }

    /** Only the numbers from least to most are taken, each on an object of its own. */
    private static void onlyFrom(Class<? extends RuntimeException> kind, int least, int most,
            Supplier<CachehallDesk> made, Call call) {
        int[] outside = {least - 1, most + 1, least - 64, most + 64, -1 - most, ~most, most + 65536,
            Integer.MIN_VALUE, Integer.MIN_VALUE + least, Integer.MIN_VALUE + most, Integer.MAX_VALUE};
        for (int number : outside) {
            if (number < least || number > most) {
                DUE.refuses(kind, () -> call.answer(made.get(), number));
            }
        }
        for (int number = least; number <= most; number++) {
            call.answer(made.get(), number);
        }
    }

    /** ACTIONS 0 to 2, of which each READS the FILE of its number and those before; 1 WORKER, 2 TEAMS. */
    private static CachehallDesk small() {
        CachehallDesk x = new CachehallDesk();
        x.action(1, 0, 0, 0, 2, 2);
        x.action(2, 1, 1, 1, 3, 3);
        x.action(4, 3, 2, 0, 4, 4);
        x.worker(0);
        x.team(100);
        x.team(100);
        return x;
    }

    private static CachehallDesk smallAndBuilt() {
        CachehallDesk x = small();
        x.build(0, 2);
        return x;
    }

    private static CachehallDesk smallWith(int entries) {
        CachehallDesk x = small();
        for (int n = 0; n < entries; n++) {
            x.file(0, n);
            x.build(0, 0);
        }
        return x;
    }

    // ---- Promises 1 to 5

    /** Creates a hall without ACTIONS, WORKERS and TEAMS. */
    private static void aHallWithoutAny() {
        CachehallDesk x = new CachehallDesk();
        for (int what = 0; what <= 9; what++) {
            DUE.is(0, x.many(what));
        }
        for (int file = 0; file <= 7; file++) {
            DUE.is(0, x.touched(file));
        }
        DUE.refuses(Due.INDEX, () -> x.ofAction(0, 0));
        DUE.refuses(Due.INDEX, () -> x.ofWorker(0, 0));
        DUE.refuses(Due.INDEX, () -> x.mend(0, 0));
        DUE.refuses(Due.INDEX, () -> x.quota(0, 0));
        DUE.refuses(Due.INDEX, () -> x.ofTeam(0, 0));
        DUE.refuses(Due.INDEX, () -> x.build(0, 0));
        DUE.refuses(Due.INDEX, () -> x.recheck(0));
        DUE.refuses(Due.INDEX, () -> x.ofEntry(0, 0));
        DUE.refuses(Due.INDEX, () -> x.from(0, 0));
        DUE.refuses(Due.INDEX, () -> x.wouldRun(0, 0));
        DUE.refuses(Due.INDEX, () -> x.wouldBeWrong(0, 0));
        DUE.refuses(Due.INDEX, () -> x.wouldGo(0, 1));
    }

    /** Throws IllegalArgumentException if files is not 0 to 255. */
    private static void filesIsNot0To255() {
        onlyFrom(Due.ARGUMENT, 0, 255, CachehallDesk::new, (x, files) -> x.action(files, 0, 0, 0, 1, 1));
    }

    /** If actions has others than those that are there: one more, or one far off, or the sign. */
    private static void actionsHasOthersThanThoseThatAreThere() {
        for (int there = 0; there <= 13; there++) {
            CachehallDesk x = new CachehallDesk();
            for (int n = 0; n < there; n++) {
                x.action(0, 0, 0, 0, 1, 1);
            }
            for (int other = there; other < 32; other++) {
                int one = 1 << other;
                int all = (1 << there) - 1 | one;
                DUE.refuses(Due.ARGUMENT, () -> x.action(0, one, 0, 0, 1, 1));
                DUE.refuses(Due.ARGUMENT, () -> x.action(0, all, 0, 0, 1, 1));
            }
            // those that are there, all of them
            DUE.is(there, x.action(0, (1 << there) - 1, 0, 0, 1, 1));
        }
        // and the first and the last alone, and none
        CachehallDesk y = small();
        DUE.is(3, y.action(0, 1, 0, 0, 1, 1));
        DUE.is(4, y.action(0, 8, 0, 0, 1, 1));
        DUE.is(5, y.action(0, 0, 0, 0, 1, 1));
    }

    /** If settings is not 0 to 63. */
    private static void settingsIsNot0To63() {
        onlyFrom(Due.ARGUMENT, 0, 63, CachehallDesk::new, (x, settings) -> x.action(0, 0, settings, 0, 1, 1));
    }

    /** If out has others than settings: each set with each. */
    private static void outHasOthersThanSettings() {
        for (int settings = 0; settings <= 63; settings++) {
            int those = settings;
            for (int out = -2; out <= 65; out++) {
                int asked = out;
                if (out < 0 || (out & ~settings) != 0) {
                    DUE.refuses(Due.ARGUMENT, () -> new CachehallDesk().action(0, 0, those, asked, 1, 1));
                } else {
                    DUE.is(0, new CachehallDesk().action(0, 0, those, asked, 1, 1));
                }
            }
            DUE.refuses(Due.ARGUMENT, () -> new CachehallDesk().action(0, 0, those, 1 << 31, 1, 1));
            DUE.refuses(Due.ARGUMENT, () -> new CachehallDesk().action(0, 0, those, those | 1 << 31, 1, 1));
        }
    }

    /** If cost is not 1 to 50. */
    private static void costIsNot1To50() {
        onlyFrom(Due.ARGUMENT, 1, 50, CachehallDesk::new, (x, cost) -> x.action(0, 0, 0, 0, cost, 1));
    }

    /** Or size is not 1 to 20. */
    private static void sizeIsNot1To20() {
        onlyFrom(Due.ARGUMENT, 1, 20, CachehallDesk::new, (x, size) -> x.action(0, 0, 0, 0, 1, size));
    }

    /** Throws IllegalStateException if there are 14: not if there are 13. */
    private static void thereAre14Actions() {
        CachehallDesk x = new CachehallDesk();
        for (int n = 0; n < 13; n++) {
            x.action(0, 0, 0, 0, 1, 1);
        }
        DUE.is(13, x.action(255, 8191, 63, 63, 50, 20));
        DUE.refuses(Due.STATE, () -> x.action(0, 0, 0, 0, 1, 1));
        DUE.refuses(Due.STATE, () -> x.action(255, 16383, 63, 63, 50, 20));
        DUE.is(14, x.many(0));
    }

    /** file: its CONTENT from now on. Returns the one before: also if it is the same. */
    private static void fileReturnsTheOneBefore() {
        CachehallDesk x = new CachehallDesk();
        int[] contents = {0, 99, 99, 0, 0, 1};
        int before = 0;
        for (int content : contents) {
            DUE.is(before, x.file(7, content));
            before = content;
        }
        DUE.is(0, x.file(6, 0));
    }

    /** Throws IndexOutOfBoundsException if there is no such FILE. */
    private static void thereIsNoSuchFile() {
        onlyFrom(Due.INDEX, 0, 7, CachehallDesk::new, (x, file) -> x.file(file, 0));
    }

    /** Throws IllegalArgumentException if content is not 0 to 99. */
    private static void contentIsNot0To99() {
        onlyFrom(Due.ARGUMENT, 0, 99, CachehallDesk::new, (x, content) -> x.file(7, content));
    }

    /** set: its VALUE from now on. Returns the one before: also if it is the same. */
    private static void setReturnsTheOneBefore() {
        CachehallDesk x = new CachehallDesk();
        int[] values = {0, 9, 9, 0, 0, 1};
        int before = 0;
        for (int value : values) {
            DUE.is(before, x.set(5, value));
            before = value;
        }
        DUE.is(0, x.set(4, 0));
    }

    /** Throws IndexOutOfBoundsException if there is no such SETTING. */
    private static void thereIsNoSuchSetting() {
        onlyFrom(Due.INDEX, 0, 5, CachehallDesk::new, (x, setting) -> x.set(setting, 0));
    }

    /** Throws IllegalArgumentException if value is not 0 to 9. */
    private static void valueIsNot0To9() {
        onlyFrom(Due.ARGUMENT, 0, 9, CachehallDesk::new, (x, value) -> x.set(5, value));
    }

    /** The PRINT that would come as all is now, without FAULTS, and with such PRINTS of what it READS. */
    private static void thePrintThatWouldComeWithoutFaults() {
        CachehallDesk x = small();
        x.mend(0, 1);
        DUE.is(62 + 5 * 3 * 31, x.ofAction(2, 6));
        x.build(0, 2);
        DUE.is(62 + 5 * 3 * 31, x.ofAction(2, 6));
        x.file(0, 1);
        x.set(0, 1);
        // 7, and 31 + 5 * 2 * 7 + 3, though SETTING 0 is LEFT OUT
        DUE.is(104, x.ofAction(1, 6));
        DUE.is((62 + 5 * (2 * 7 + 3 * 104)) % 997, x.ofAction(2, 6));
        // Without any WORKER, too.
        CachehallDesk y = new CachehallDesk();
        y.action(128, 0, 32, 32, 1, 1);
        y.file(7, 2);
        y.set(5, 3);
        DUE.is(7 * 8 * 2 + 3 * 6 * 3, y.ofAction(0, 6));
    }

    /** How many of its ENTRIES are KEPT: none, those of each TEAM, not those that have GONE or are POISONED. */
    private static void howManyOfItsEntriesAreKept() {
        CachehallDesk x = small();
        DUE.is(0, x.ofAction(0, 7));
        x.build(0, 0);
        x.file(0, 1);
        x.build(1, 0);
        DUE.is(2, x.ofAction(0, 7));
        DUE.is(0, x.ofAction(1, 7));
        CachehallDesk y = smallAndBuilt();
        y.file(2, 1);
        y.build(0, 2);
        DUE.is(1, y.ofAction(0, 7));
        DUE.is(1, y.ofAction(1, 7));
        DUE.is(2, y.ofAction(2, 7));
        x.quota(0, 0);
        DUE.is(1, x.ofAction(0, 7));
        x.worker(1);
        DUE.is(2, x.recheck(1));
        DUE.is(1, x.ofAction(0, 7));
        x.quota(1, 0);
        DUE.is(0, x.ofAction(0, 7));
    }

    /** Throws IndexOutOfBoundsException if there is no such ACTION. */
    private static void ofActionOfNoSuchAction() {
        onlyFrom(Due.INDEX, 0, 2, EdgesOfCallsTest::small, (x, action) -> x.ofAction(action, 7));
        onlyFrom(Due.INDEX, 0, 2, EdgesOfCallsTest::small, (x, action) -> x.ofAction(action, 6));
    }

    /** Throws IllegalArgumentException if what is not 0 to 7. */
    private static void ofActionOfWhatIsNot0To7() {
        onlyFrom(Due.ARGUMENT, 0, 7, EdgesOfCallsTest::small, (x, what) -> x.ofAction(2, what));
    }

    // ---- Promises 6 to 11

    /** Throws IllegalArgumentException if fault is not 0 to 9. */
    private static void workerWithAFaultThatIsNot0To9() {
        onlyFrom(Due.ARGUMENT, 0, 9, CachehallDesk::new, (x, fault) -> x.worker(fault));
    }

    /** Throws IllegalStateException if there are 4: not if there are 3. */
    private static void thereAre4Workers() {
        CachehallDesk x = Halls.withWorkers(new CachehallDesk(), 1, 2, 3);
        DUE.is(3, x.worker(9));
        DUE.refuses(Due.STATE, () -> x.worker(0));
        DUE.refuses(Due.STATE, () -> x.worker(9));
        DUE.is(4, x.many(1));
    }

    /** ofWorker: of one that did nothing all but its TRUST is 0. */
    private static void ofWorkerOfOneThatDidNothing() {
        CachehallDesk x = Halls.withWorkers(new CachehallDesk(), 9, 9, 9, 9);
        for (int worker = 0; worker < 4; worker++) {
            DUE.is(50, x.ofWorker(worker, 0));
            for (int what = 1; what <= 4; what++) {
                DUE.is(0, x.ofWorker(worker, what));
            }
        }
    }

    /** How many of its RUNS were to CHECK: by a BUILD, and by recheck(), right or WRONG. */
    private static void howManyOfItsRunsWereToCheck() {
        CachehallDesk x = small();
        x.build(0, 0);
        x.worker(2);
        DUE.is(0, x.ofWorker(1, 4));
        DUE.is(1, x.recheck(0));
        DUE.is(1, x.ofWorker(1, 4));
        DUE.is(2, x.recheck(0));
        DUE.is(2, x.ofWorker(1, 4));
        x.check(1);
        x.build(0, 0);
        DUE.is(2, x.ofWorker(1, 4));
        DUE.is(1, x.ofWorker(0, 4));
        DUE.is(1, x.many(7));
        // one to build, and one to CHECK
        DUE.is(2, x.ofWorker(0, 1));
    }

    /** How many ENTRIES that it made are POISONED: not those that another one made of these. */
    private static void howManyEntriesThatItMadeArePoisoned() {
        CachehallDesk x = Halls.withWorkers(Halls.plain(1, 1, 1, 100), 1, 0);
        x.action(0, 1, 0, 0, 1, 1);
        x.build(0, 1);
        DUE.is(0, x.ofEntry(0, 1));
        DUE.is(1, x.ofEntry(1, 1));
        DUE.is(0, x.ofWorker(0, 3));
        x.recheck(0);
        DUE.is(1, x.ofWorker(0, 3));
        DUE.is(1, x.ofWorker(1, 3));
        // POISONED once, they stay so.
        x.mend(0, 0);
        x.quota(0, 0);
        DUE.is(1, x.ofWorker(0, 3));
    }

    /** Throws IndexOutOfBoundsException if there is no such WORKER. */
    private static void ofWorkerOfNoSuchWorker() {
        onlyFrom(Due.INDEX, 0, 0, EdgesOfCallsTest::small, (x, worker) -> x.ofWorker(worker, 0));
        onlyFrom(Due.INDEX, 0, 3, () -> Halls.withWorkers(small(), 0, 0, 0), (x, worker) -> x.ofWorker(worker, 3));
    }

    /** Throws IllegalArgumentException if what is not 0 to 4. */
    private static void ofWorkerOfWhatIsNot0To4() {
        onlyFrom(Due.ARGUMENT, 0, 4, EdgesOfCallsTest::small, (x, what) -> x.ofWorker(0, what));
    }

    /** Its TRUST is 50 again: from the least, and from the most. Returns its TRUST before. */
    private static void itsTrustIs50Again() {
        CachehallDesk x = Halls.withWorkers(Halls.plain(2, 1, 1, 100), 0);
        x.build(0, 0);
        x.build(0, 1);
        x.worker(0);
        for (int n = 0; n < 11; n++) {
            x.recheck(0);
        }
        DUE.is(100, x.mend(0, 0));
        DUE.is(50, x.mend(0, 0));
        x.mend(1, 1);
        x.recheck(0);
        x.recheck(1);
        DUE.is(0, x.mend(0, 9));
        DUE.is(50, x.ofWorker(0, 0));
        DUE.is(50, x.ofWorker(1, 0));
    }

    /** Its FAULT from now on: with 0 none, with n each n-th of all of its RUNS ever. */
    private static void itsFaultFromNowOn() {
        CachehallDesk x = Halls.withWorkers(Halls.plain(1, 1, 1, 100), 1);
        int[] faults = {1, 0, 0, 2, 2, 3, 7, 3, 9, 0};
        int[] more = {1, 0, 0, 1, 0, 1, 1, 0, 1, 0};
        for (int n = 0; n < faults.length; n++) {
            x.mend(0, faults[n]);
            x.file(0, n);
            DUE.is(7 * n + more[n], x.build(0, 0));
        }
    }

    /** Throws IndexOutOfBoundsException if there is no such WORKER. */
    private static void mendOfNoSuchWorker() {
        onlyFrom(Due.INDEX, 0, 0, EdgesOfCallsTest::small, (x, worker) -> x.mend(worker, 0));
        onlyFrom(Due.INDEX, 0, 3, () -> Halls.withWorkers(small(), 0, 0, 0), (x, worker) -> x.mend(worker, 9));
    }

    /** Throws IllegalArgumentException if fault is not 0 to 9. */
    private static void mendWithAFaultThatIsNot0To9() {
        onlyFrom(Due.ARGUMENT, 0, 9, EdgesOfCallsTest::small, (x, fault) -> x.mend(0, fault));
    }

    /** Throws IllegalArgumentException if quota is not 0 to 100. */
    private static void teamWithAQuotaThatIsNot0To100() {
        onlyFrom(Due.ARGUMENT, 0, 100, CachehallDesk::new, (x, quota) -> x.team(quota));
    }

    /** Throws IllegalStateException if there are 4: not if there are 3. */
    private static void thereAre4Teams() {
        CachehallDesk x = small();
        DUE.is(2, x.team(0));
        DUE.is(3, x.team(100));
        DUE.refuses(Due.STATE, () -> x.team(0));
        DUE.refuses(Due.STATE, () -> x.team(100));
        DUE.is(4, x.many(2));
    }

    /** As long as it USES more than that, ENTRIES go. Returns how many have GONE by that. */
    private static void asLongAsItUsesMoreThanThat() {
        for (int quota = 0; quota <= 100; quota++) {
            CachehallDesk x = smallAndBuilt();
            // SIZES 2, 3, 4 and the WORTH 10 of each: the smallest number goes first
            int gone = quota >= 9 ? 0 : quota >= 7 ? 1 : quota >= 4 ? 2 : 3;
            DUE.is(gone, x.quota(0, quota));
            for (int entry = 0; entry < 3; entry++) {
                DUE.is(entry < gone ? 1 : 0, x.ofEntry(entry, 5));
            }
            DUE.is(0, x.quota(0, quota));
        }
        CachehallDesk y = smallWith(50);
        DUE.is(100, y.ofTeam(0, 1));
        DUE.is(0, y.quota(1, 0));
        DUE.is(0, y.quota(0, 100));
        DUE.is(1, y.quota(0, 99));
        DUE.is(0, y.quota(0, 98));
        DUE.is(49, y.quota(0, 1));
        DUE.is(0, y.ofTeam(0, 4));
    }

    /** Its QUOTA from now on: what has GONE does not come again with a greater one. */
    private static void itsQuotaFromNowOn() {
        CachehallDesk x = smallAndBuilt();
        x.quota(0, 0);
        DUE.is(0, x.quota(0, 100));
        DUE.is(100, x.ofTeam(0, 0));
        DUE.is(0, x.ofTeam(0, 4));
        DUE.is(3, x.wouldRun(0, 2));
        x.quota(0, 1);
        x.build(0, 0);
        DUE.is(1, x.ofEntry(3, 5));
        x.quota(0, 2);
        x.build(0, 0);
        DUE.is(0, x.ofEntry(4, 5));
    }

    /** Throws IndexOutOfBoundsException if there is no such TEAM. */
    private static void quotaOfNoSuchTeam() {
        onlyFrom(Due.INDEX, 0, 1, EdgesOfCallsTest::small, (x, team) -> x.quota(team, 0));
    }

    /** Throws IllegalArgumentException if quota is not 0 to 100. */
    private static void quotaIsNot0To100() {
        onlyFrom(Due.ARGUMENT, 0, 100, EdgesOfCallsTest::small, (x, quota) -> x.quota(1, quota));
    }

    /** ofTeam: of one that did nothing all but its QUOTA is 0. */
    private static void ofTeamOfOneThatDidNothing() {
        CachehallDesk x = smallAndBuilt();
        DUE.is(100, x.ofTeam(1, 0));
        for (int what = 1; what <= 4; what++) {
            DUE.is(0, x.ofTeam(1, what));
        }
    }

    /** How many BUILDS it did: each counts once, also by HITS alone; what could not be built is none. */
    private static void howManyBuildsItDid() {
        CachehallDesk x = smallWith(60);
        DUE.is(60, x.ofTeam(0, 3));
        DUE.refuses(Due.STATE, () -> x.build(0, 1));
        DUE.is(60, x.ofTeam(0, 3));
        DUE.is(7 * 59, x.build(0, 0));
        DUE.is(7 * 59, x.build(1, 0));
        x.wouldRun(1, 0);
        x.wouldBeWrong(1, 0);
        DUE.is(61, x.ofTeam(0, 3));
        DUE.is(1, x.ofTeam(1, 3));
    }

    /** How many of its ENTRIES are KEPT: of the first to the last, not those that have GONE or are POISONED. */
    private static void howManyEntriesOfTheTeamAreKept() {
        CachehallDesk x = small();
        x.build(1, 0);
        DUE.is(1, x.ofTeam(1, 4));
        x.build(0, 2);
        DUE.is(1, x.ofTeam(1, 4));
        DUE.is(2, x.ofTeam(0, 4));
        x.worker(1);
        DUE.is(2, x.recheck(2));
        DUE.is(2, x.ofTeam(0, 4));
        DUE.is(2, x.recheck(0));
        // All that came of it are POISONED; a new one is there for it.
        DUE.is(1, x.ofTeam(1, 4));
        DUE.is(0, x.ofTeam(0, 4));
        x.quota(1, 1);
        DUE.is(0, x.ofTeam(1, 4));
        CachehallDesk y = smallWith(60);
        DUE.is(50, y.ofTeam(0, 4));
    }

    /** Throws IndexOutOfBoundsException if there is no such TEAM. */
    private static void ofTeamOfNoSuchTeam() {
        onlyFrom(Due.INDEX, 0, 1, EdgesOfCallsTest::small, (x, team) -> x.ofTeam(team, 0));
        onlyFrom(Due.INDEX, 0, 1, EdgesOfCallsTest::small, (x, team) -> x.ofTeam(team, 4));
    }

    /** Throws IllegalArgumentException if what is not 0 to 4. */
    private static void ofTeamOfWhatIsNot0To4() {
        onlyFrom(Due.ARGUMENT, 0, 4, EdgesOfCallsTest::small, (x, what) -> x.ofTeam(1, what));
    }

    // ---- Promises 12 to 18

    /** Throws IndexOutOfBoundsException if there is no such TEAM. */
    private static void buildOfNoSuchTeam() {
        onlyFrom(Due.INDEX, 0, 1, EdgesOfCallsTest::small, (x, team) -> x.build(team, 0));
    }

    /** Or ACTION. */
    private static void buildOfNoSuchAction() {
        onlyFrom(Due.INDEX, 0, 2, EdgesOfCallsTest::small, (x, action) -> x.build(0, action));
    }

    /** Throws IllegalStateException if nothing can be built: no WORKER, or more than 60 ENTRIES. */
    private static void nothingCanBeBuilt() {
        CachehallDesk x = Halls.plain(1, 1, 1, 100);
        DUE.refuses(Due.STATE, () -> x.build(0, 0));
        CachehallDesk y = smallWith(60);
        y.file(0, 60);
        DUE.refuses(Due.STATE, () -> y.build(0, 0));
        y.file(0, 59);
        DUE.is(7 * 59, y.build(0, 0));
        DUE.refuses(Due.STATE, () -> y.build(0, 1));
        CachehallDesk z = smallWith(58);
        DUE.refuses(Due.STATE, () -> {
            z.file(0, 58);
            return z.build(0, 2);
        });
        z.file(0, 57);
        z.build(0, 2);
        DUE.is(60, z.many(3));
    }

    /** check: CHECK from now on. Returns the one before: 0 at first, and also if it is the same. */
    private static void checkReturnsTheOneBefore() {
        CachehallDesk x = new CachehallDesk();
        int[] checks = {0, 9, 9, 0, 1, 0};
        int before = 0;
        for (int check : checks) {
            DUE.is(before, x.check(check));
            before = check;
        }
    }

    /** Throws IllegalArgumentException if check is not 0 to 9. */
    private static void checkIsNot0To9() {
        onlyFrom(Due.ARGUMENT, 0, 9, CachehallDesk::new, (x, check) -> x.check(check));
    }

    /** Returns 0 if it could not be CHECKED. */
    private static void recheckReturns0IfItCouldNotBeChecked() {
        CachehallDesk x = smallAndBuilt();
        for (int entry = 0; entry < 3; entry++) {
            DUE.is(0, x.recheck(entry));
        }
        DUE.is(3, x.many(8));
        DUE.is(50, x.ofWorker(0, 0));
        DUE.states(x, 0, 0, 0);
    }

    /** 1 if the PRINTS are the same. */
    private static void recheckReturns1IfThePrintsAreTheSame() {
        CachehallDesk x = smallAndBuilt();
        x.worker(0);
        for (int entry = 0; entry < 3; entry++) {
            DUE.is(1, x.recheck(entry));
        }
        DUE.is(6, x.many(8));
        DUE.is(65, x.ofWorker(0, 0));
        DUE.states(x, 0, 0, 0);
        DUE.is(0, x.many(9));
    }

    /** 2 if it was WRONG. */
    private static void recheckReturns2IfItWasWrong() {
        CachehallDesk x = smallAndBuilt();
        x.worker(1);
        DUE.is(2, x.recheck(2));
        DUE.states(x, 0, 0, 2, 0);
        DUE.is(20, x.ofWorker(0, 0));
        DUE.is(1, x.many(9));
        DUE.is(0, x.from(3, 0));
        DUE.is(1, x.from(3, 1));
        DUE.is(x.ofEntry(2, 3) + 1, x.ofEntry(3, 3));
    }

    /** No HIT is counted: nor is it one by which another would be CHECKED. */
    private static void recheckCountsNoHit() {
        CachehallDesk x = smallAndBuilt();
        x.worker(0);
        x.check(2);
        x.build(0, 0);
        x.recheck(0);
        DUE.is(1, x.many(7));
        DUE.is(1, x.ofEntry(0, 4));
        DUE.is(2, x.ofTeam(0, 2));
        DUE.is(20, x.ofEntry(0, 6));
        x.build(0, 0);
        // the second HIT
        DUE.is(2, x.ofWorker(1, 4));
    }

    /** With the PRINTS that it got, though another one would be got now; those of GONE ENTRIES, too. */
    private static void recheckWithThePrintsThatItGot() {
        CachehallDesk x = smallAndBuilt();
        x.worker(0);
        x.file(0, 50);
        x.build(0, 0);
        DUE.is(1, x.recheck(1));
        DUE.is(1, x.recheck(2));
        x.quota(0, 6);
        DUE.states(x, 1, 1, 0, 0);
        DUE.is(1, x.recheck(2));
        x.mend(1, 1);
        DUE.is(2, x.recheck(2));
        DUE.is(5, x.many(3));
        DUE.is(0, x.from(4, 0));
        DUE.is(1, x.from(4, 1));
    }

    /** Throws IndexOutOfBoundsException if there is no such ENTRY. */
    private static void recheckOfNoSuchEntry() {
        onlyFrom(Due.INDEX, 0, 2, EdgesOfCallsTest::smallAndBuilt, (x, entry) -> x.recheck(entry));
    }

    /** Throws IllegalStateException if it is not KEPT: if it has GONE, or is POISONED. */
    private static void recheckIfItIsNotKept() {
        CachehallDesk x = smallAndBuilt();
        x.worker(1);
        x.quota(0, 7);
        DUE.states(x, 1, 0, 0);
        DUE.refuses(Due.STATE, () -> x.recheck(0));
        DUE.is(2, x.recheck(1));
        DUE.states(x, 1, 2, 2, 0);
        DUE.refuses(Due.STATE, () -> x.recheck(1));
        DUE.refuses(Due.STATE, () -> x.recheck(2));
        // Without another WORKER, too: it is thrown, not 0 answered.
        CachehallDesk y = smallAndBuilt();
        y.quota(0, 0);
        DUE.refuses(Due.STATE, () -> y.recheck(0));
    }

    /** If a FILE of its KEY is another one now: each that its ACTION READS, and no other. */
    private static void recheckIfAFileOfItsKeyIsAnotherOneNow() {
        for (int read = 0; read < 256; read += 15) {
            CachehallDesk x = new CachehallDesk();
            x.action(read, 0, 0, 0, 1, 1);
            x.team(100);
            Halls.withWorkers(x, 0, 0);
            for (int file = 0; file <= 7; file++) {
                x.file(file, 50);
            }
            x.build(0, 0);
            for (int file = 0; file <= 7; file++) {
                x.file(file, file % 2 == 0 ? 49 : 51);
                if ((read >> file & 1) != 0) {
                    DUE.refuses(Due.STATE, () -> x.recheck(0));
                } else {
                    DUE.is(1, x.recheck(0));
                }
                x.file(file, 50);
            }
            DUE.is(1, x.recheck(0));
        }
        // What an ACTION that it READS does READ is not of its KEY.
        CachehallDesk y = smallAndBuilt();
        y.worker(0);
        y.file(0, 1);
        DUE.refuses(Due.STATE, () -> y.recheck(0));
        DUE.is(1, y.recheck(1));
        DUE.is(1, y.recheck(2));
    }

    /** Or SETTING of its KEY: each that its ACTION READS, but those that are LEFT OUT. */
    private static void recheckIfASettingOfItsKeyIsAnotherOneNow() {
        for (int read = 0; read < 64; read += 9) {
            int out = read & 28;
            CachehallDesk x = new CachehallDesk();
            x.action(0, 0, read, out, 1, 1);
            x.team(100);
            Halls.withWorkers(x, 0, 0);
            for (int setting = 0; setting <= 5; setting++) {
                x.set(setting, 5);
            }
            x.build(0, 0);
            for (int setting = 0; setting <= 5; setting++) {
                x.set(setting, setting % 2 == 0 ? 4 : 6);
                int last = x.many(3) - 1;
                if (((read & ~out) >> setting & 1) != 0) {
                    DUE.refuses(Due.STATE, () -> x.recheck(last));
                    x.set(setting, 5);
                } else {
                    // One that is LEFT OUT makes it WRONG, and that is told.
                    DUE.is((out >> setting & 1) != 0 ? 2 : 1, x.recheck(last));
                }
            }
        }
    }

    /** Or there were 60 ENTRIES (also if no new one would come): not if there were 59. */
    private static void recheckIfThereWere60Entries() {
        CachehallDesk x = smallWith(59);
        DUE.is(0, x.recheck(58));
        x.worker(0);
        DUE.is(1, x.recheck(58));
        x.mend(1, 1);
        DUE.is(2, x.recheck(58));
        DUE.is(60, x.many(3));
        // Now each is refused: what would be right, what would be WRONG, what could not be CHECKED.
        DUE.is(1, x.ofEntry(59, 1));
        DUE.refuses(Due.STATE, () -> x.recheck(59));
        x.mend(1, 0);
        DUE.refuses(Due.STATE, () -> x.recheck(59));
        CachehallDesk y = smallWith(60);
        DUE.refuses(Due.STATE, () -> y.recheck(59));
        y.worker(0);
        DUE.refuses(Due.STATE, () -> y.recheck(59));
        DUE.is(60, y.many(8));
    }

    /** How many ENTRIES got a PRINT from it, or from one that did, and so on: 0 to all behind it. */
    private static void howManyGotAPrintFromIt() {
        CachehallDesk x = Halls.withWorkers(Halls.plain(1, 1, 1, 100), 0);
        for (int n = 1; n < 14; n++) {
            x.action(2, n % 2 == 0 ? (1 << n) - 1 : 1 << (n - 1), 0, 0, 1, 1);
        }
        for (int n = 0; n < 4; n++) {
            x.file(1, n);
            x.build(0, 13);
        }
        // ENTRY 0 of ACTION 0, and four times those of the 13 that READ it
        DUE.is(53, x.many(3));
        DUE.is(52, x.ofEntry(0, 7));
        for (int entry = 1; entry <= 52; entry++) {
            DUE.is(12 - (entry - 1) % 13, x.ofEntry(entry, 7));
        }
        x.file(1, 0);
        x.file(0, 1);
        x.build(0, 0);
        DUE.is(0, x.ofEntry(53, 7));
        DUE.is(52, x.ofEntry(0, 7));
    }

    /** Throws IndexOutOfBoundsException if there is no such ENTRY. */
    private static void ofEntryOfNoSuchEntry() {
        onlyFrom(Due.INDEX, 0, 2, EdgesOfCallsTest::smallAndBuilt, (x, entry) -> x.ofEntry(entry, 7));
        onlyFrom(Due.INDEX, 0, 59, () -> smallWith(60), (x, entry) -> x.ofEntry(entry, 7));
        CachehallDesk x = small();
        DUE.refuses(Due.INDEX, () -> x.ofEntry(0, 0));
        // Those that only would be are none.
        x.wouldRun(0, 2);
        DUE.refuses(Due.INDEX, () -> x.ofEntry(0, 0));
    }

    /** Throws IllegalArgumentException if what is not 0 to 7. */
    private static void ofEntryOfWhatIsNot0To7() {
        onlyFrom(Due.ARGUMENT, 0, 7, EdgesOfCallsTest::smallAndBuilt, (x, what) -> x.ofEntry(2, what));
    }

    /** Throws IndexOutOfBoundsException if there is no such ENTRY. */
    private static void fromOfNoSuchEntry() {
        onlyFrom(Due.INDEX, 1, 2, EdgesOfCallsTest::smallAndBuilt, (x, entry) -> x.from(entry, 0));
        CachehallDesk x = small();
        x.wouldRun(0, 2);
        DUE.refuses(Due.INDEX, () -> x.from(2, 0));
    }

    /** Or its ACTION does not READ such a one: none, itself, a greater one, none that is there. */
    private static void itsActionDoesNotReadSuchAOne() {
        CachehallDesk x = new CachehallDesk();
        for (int n = 0; n < 14; n++) {
            x.action(0, n == 13 ? 1 + 32 + 4096 : 0, 0, 0, 1, 1);
        }
        x.team(100);
        x.worker(0);
        x.build(0, 13);
        for (int action = -1; action <= 32; action++) {
            int asked = action;
            if (action == 0 || action == 5 || action == 12) {
                DUE.is(action == 0 ? 0 : action == 5 ? 1 : 2, x.from(3, action));
            } else {
                DUE.refuses(Due.INDEX, () -> x.from(3, asked));
            }
            for (int entry = 0; entry < 3; entry++) {
                int of = entry;
                DUE.refuses(Due.INDEX, () -> x.from(of, asked));
            }
        }
        DUE.refuses(Due.INDEX, () -> x.from(3, Integer.MIN_VALUE));
        DUE.refuses(Due.INDEX, () -> x.from(3, Integer.MAX_VALUE));
        // Counted on from ENTRY 2, these would be those of ENTRY 3.
        DUE.refuses(Due.INDEX, () -> x.from(2, 14));
        DUE.refuses(Due.INDEX, () -> x.from(2, 14 + 5));
    }

    /** ENTRIES ever, those that are KEPT, have GONE, are POISONED; HITS of all, RUNS of all, WRONG ones. */
    private static void manyIsOfThoseEver() {
        CachehallDesk x = smallWith(59);
        int[] atFirst = {3, 1, 2, 59, 50, 9, 0, 0, 59, 0};
        for (int what = 0; what <= 9; what++) {
            DUE.is(atFirst[what], x.many(what));
        }
        x.build(0, 0);
        x.worker(1);
        x.recheck(58);
        x.quota(0, 0);
        int[] atLast = {3, 2, 2, 60, 0, 59, 1, 1, 60, 1};
        for (int what = 0; what <= 9; what++) {
            DUE.is(atLast[what], x.many(what));
        }
    }

    /** Throws IllegalArgumentException if what is not 0 to 9. */
    private static void manyOfWhatIsNot0To9() {
        onlyFrom(Due.ARGUMENT, 0, 9, EdgesOfCallsTest::smallAndBuilt, (x, what) -> x.many(what));
    }

    /** 0 without any: and without HITS. */
    private static void hitShareIs0WithoutAny() {
        DUE.is(0.0, new CachehallDesk().hitShare());
        DUE.is(0.0, small().hitShare());
        DUE.is(0.0, smallAndBuilt().hitShare());
        DUE.is(0.0, smallWith(60).hitShare());
    }

    /** HITS of all, divided by HITS and ENTRIES ever together, not cut. */
    private static void hitShareIsNotCut() {
        CachehallDesk x = Halls.withWorkers(Halls.plain(1, 1, 1, 100), 0);
        x.build(0, 0);
        for (int hits = 1; hits <= 200; hits++) {
            x.build(0, 0);
            DUE.is((double) hits / (hits + 1), x.hitShare());
        }
        x.quota(0, 0);
        x.build(0, 0);
        DUE.is(200.0 / 202.0, x.hitShare());
    }

    // ---- Promises 19 to 23

    /** How many RUNS it would take to build that now: 0, 1, and 14 at the most without a CHECK. */
    private static void noRunIfAllAreHits() {
        CachehallDesk x = Halls.withWorkers(Halls.plain(0, 1, 1, 100), 0);
        for (int n = 0; n < 14; n++) {
            x.action(1, (1 << n) - 1, 0, 0, 1, 1);
            DUE.is(n + 1, x.wouldRun(0, n));
        }
        x.build(0, 12);
        DUE.is(0, x.wouldRun(0, 12));
        DUE.is(1, x.wouldRun(0, 13));
        x.build(0, 13);
        DUE.is(0, x.wouldRun(0, 13));
        x.file(0, 1);
        DUE.is(14, x.wouldRun(0, 13));
        DUE.is(14, x.many(8));
    }

    /** Those to CHECK, too: with the number of HITS as it would be. */
    private static void thoseToCheckToo() {
        int[] due = {0, 3, 1, 1, 0, 0, 0, 0, 0, 0};
        for (int check = 0; check <= 9; check++) {
            CachehallDesk x = smallAndBuilt();
            x.check(check);
            DUE.is(0, x.wouldRun(0, 2));
            x.worker(0);
            DUE.is(due[check], x.wouldRun(0, 2));
            DUE.is(0, x.many(7));
        }
        CachehallDesk y = smallAndBuilt();
        y.worker(0);
        y.check(9);
        for (int hit = 1; hit <= 8; hit++) {
            DUE.is(0, y.wouldRun(0, 0));
            y.build(0, 0);
        }
        DUE.is(1, y.wouldRun(0, 0));
    }

    /** NONE if nothing can be built. */
    private static void noneIfNothingCanBeBuilt() {
        DUE.is(-1, Halls.plain(1, 1, 1, 100).wouldRun(0, 0));
        CachehallDesk x = smallWith(59);
        DUE.is(0, x.wouldRun(0, 0));
        DUE.is(1, x.wouldRun(0, 1));
        DUE.is(-1, x.wouldRun(0, 2));
        x.file(0, 59);
        DUE.is(1, x.wouldRun(0, 0));
        DUE.is(-1, x.wouldRun(0, 1));
        x.build(0, 0);
        DUE.is(0, x.wouldRun(0, 0));
        DUE.is(-1, x.wouldRun(0, 1));
        // A CHECK that would be right takes one RUN, one that would be WRONG can't be built.
        x.worker(0);
        x.check(1);
        DUE.is(1, x.wouldRun(0, 0));
        x.mend(1, 1);
        DUE.is(-1, x.wouldRun(0, 0));
    }

    /** Throws IndexOutOfBoundsException if there is no such TEAM, or ACTION. */
    private static void wouldRunOfNoSuchTeamOrAction() {
        onlyFrom(Due.INDEX, 0, 1, EdgesOfCallsTest::small, (x, team) -> x.wouldRun(team, 0));
        onlyFrom(Due.INDEX, 0, 2, EdgesOfCallsTest::small, (x, action) -> x.wouldRun(0, action));
    }

    /** Whether the PRINT that would be got is another one than ofAction() of 6: by one, or 0 and 996. */
    private static void whetherThePrintIsAnotherOne() {
        CachehallDesk x = small();
        DUE.is(false, x.wouldBeWrong(0, 2));
        x.mend(0, 3);
        DUE.is(false, x.wouldBeWrong(0, 1));
        DUE.is(true, x.wouldBeWrong(0, 2));
        // 996 + 1 is 0.
        CachehallDesk y = new CachehallDesk();
        y.action(3, 0, 1, 0, 1, 1);
        y.file(0, 99);
        y.file(1, 21);
        y.set(0, 3);
        y.team(100);
        y.worker(1);
        DUE.is(996, y.ofAction(0, 6));
        DUE.is(true, y.wouldBeWrong(0, 0));
        y.mend(0, 0);
        DUE.is(false, y.wouldBeWrong(0, 0));
    }

    /** False if nothing can be built: also if what would be got is another one. */
    private static void falseIfNothingCanBeBuilt() {
        CachehallDesk x = Halls.plain(1, 1, 1, 100);
        DUE.is(false, x.wouldBeWrong(0, 0));
        x.worker(1);
        DUE.is(true, x.wouldBeWrong(0, 0));
        CachehallDesk y = smallWith(59);
        y.mend(0, 1);
        y.file(0, 59);
        DUE.is(true, y.wouldBeWrong(0, 0));
        DUE.is(false, y.wouldBeWrong(0, 1));
        y.build(0, 0);
        DUE.is(true, y.wouldBeWrong(0, 0));
        DUE.is(false, y.wouldBeWrong(0, 1));
        y.worker(0);
        y.check(1);
        // The CHECK would find it, but there is no room for the new ENTRY.
        DUE.is(false, y.wouldBeWrong(0, 0));
        DUE.is(-1, y.wouldRun(0, 0));
    }

    /** Throws IndexOutOfBoundsException if there is no such TEAM, or ACTION. */
    private static void wouldBeWrongOfNoSuchTeamOrAction() {
        onlyFrom(Due.INDEX, 0, 1, EdgesOfCallsTest::small, (x, team) -> x.wouldBeWrong(team, 0));
        onlyFrom(Due.INDEX, 0, 2, EdgesOfCallsTest::small, (x, action) -> x.wouldBeWrong(0, action));
    }

    /** Of ACTIONS that READ that FILE, or an ACTION that does, and so on: for each FILE, none to all 14. */
    private static void touchedAndSoOn() {
        for (int read = 0; read <= 7; read++) {
            CachehallDesk x = Halls.withWorkers(Halls.plain(0, 1, 1, 100), 0);
            for (int n = 0; n < 14; n++) {
                x.action(n == read ? 1 << read : 0, n == 0 ? 0 : 1 << (n - 1), 0, 0, 1, 1);
            }
            x.build(0, 13);
            for (int file = 0; file <= 7; file++) {
                DUE.is(file == read ? 14 - read : 0, x.touched(file));
            }
        }
        // Not those that it READS, nor one that READS other ones.
        CachehallDesk y = Halls.withWorkers(Halls.plain(3, 1, 1, 100), 0);
        y.action(8, 1, 0, 0, 1, 1);
        y.build(0, 3);
        y.build(0, 1);
        DUE.is(2, y.touched(0));
        DUE.is(1, y.touched(1));
        DUE.is(0, y.touched(2));
        DUE.is(1, y.touched(3));
    }

    /** How many ENTRIES that are KEPT: made of what is now, or not; not GONE, not POISONED; of each TEAM. */
    private static void touchedOnlyByWhatIsKept() {
        CachehallDesk x = smallWith(50);
        DUE.is(50, x.touched(0));
        x.build(1, 1);
        DUE.is(51, x.touched(0));
        DUE.is(1, x.touched(1));
        DUE.is(1, x.quota(0, 99));
        DUE.is(50, x.touched(0));
        x.worker(1);
        DUE.is(2, x.recheck(50));
        DUE.is(50, x.touched(0));
        DUE.is(1, x.touched(1));
        x.quota(0, 0);
        DUE.is(1, x.touched(0));
        x.quota(1, 0);
        DUE.is(0, x.touched(0));
    }

    /** Throws IndexOutOfBoundsException if there is no such FILE. */
    private static void touchedOfNoSuchFile() {
        onlyFrom(Due.INDEX, 0, 7, EdgesOfCallsTest::small, (x, file) -> x.touched(file));
    }

    /** How many of its ENTRIES would have GONE, if a new one of that SIZE came. */
    private static void wouldGoIfItIsFull() {
        for (int room = 0; room <= 20; room++) {
            CachehallDesk x = Halls.withWorkers(Halls.plain(5, 1, 5, 25 + room), 0);
            for (int action = 0; action < 5; action++) {
                x.build(0, action);
            }
            for (int size = 1; size <= 20; size++) {
                int due = size <= room ? 0 : (size - room + 4) / 5;
                DUE.is(due, x.wouldGo(0, size));
            }
            DUE.is(5, x.many(4));
        }
        // Without any ENTRIES; at 60, too; and by WORTH.
        DUE.is(0, small().wouldGo(0, 20));
        DUE.is(10, smallWith(60).wouldGo(0, 20));
        CachehallDesk y = new CachehallDesk();
        y.action(0, 0, 0, 0, 10, 1);
        y.action(0, 0, 0, 0, 10, 10);
        y.team(11);
        y.worker(0);
        y.build(0, 0);
        y.build(0, 1);
        DUE.is(1, y.wouldGo(0, 1));
        DUE.is(1, y.wouldGo(0, 10));
        DUE.is(2, y.wouldGo(0, 11));
    }

    /** 0, if that would have GONE at once: not if it is as large as the QUOTA. */
    private static void wouldGoIs0IfThatWouldHaveGoneAtOnce() {
        for (int quota = 1; quota <= 20; quota++) {
            CachehallDesk x = Halls.withWorkers(Halls.plain(1, 1, 1, quota), 0);
            x.build(0, 0);
            for (int size = 1; size <= 20; size++) {
                DUE.is(size == quota ? 1 : 0, x.wouldGo(0, size));
            }
        }
        CachehallDesk y = Halls.plain(0, 1, 1, 0);
        DUE.is(0, y.wouldGo(0, 1));
    }

    /** Throws IndexOutOfBoundsException if there is no such TEAM. */
    private static void wouldGoOfNoSuchTeam() {
        onlyFrom(Due.INDEX, 0, 1, EdgesOfCallsTest::small, (x, team) -> x.wouldGo(team, 1));
    }

    /** Throws IllegalArgumentException if size is not 1 to 20. */
    private static void wouldGoOfASizeThatIsNot1To20() {
        onlyFrom(Due.ARGUMENT, 1, 20, EdgesOfCallsTest::small, (x, size) -> x.wouldGo(1, size));
    }

    /** A number d starts with 5747: ten of many() and eight of touched(), all 0. */
    private static void digestOfNothing() {
        long due = 5747;
        for (int n = 0; n < 18; n++) {
            due *= 31;
        }
        DUE.is(due, new CachehallDesk().digest());
    }

    /** Then d becomes d * 31 + v, which wraps around as a 64-bit integer; v may be NONE, too. */
    private static void digestWrapsAroundAs64Bits() {
        List<Supplier<CachehallDesk>> halls = List.of(EdgesOfCallsTest::small, EdgesOfCallsTest::smallAndBuilt,
                () -> smallWith(59), () -> smallWith(60), () -> Halls.plain(1, 1, 1, 0));
        for (Supplier<CachehallDesk> made : halls) {
            BigInteger due = Halls.checksum(made);
            DUE.is(true, due.bitLength() > 64);
            DUE.is(due.longValue(), made.get().digest());
        }
    }
}
