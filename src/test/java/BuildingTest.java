/** Promises 12 to 18: to build (sections 3, 4 and 6), to check (section 5), and the entries. */
final class BuildingTest {
    private static final Due DUE = new Due();

    public static void main(String[] args) {
        buildGetsAllThatIsReadByNumbers();
        buildTakesHits();
        aFileOfTheKeyMattersAndAnotherDoesNot();
        aSettingOfTheKeyMattersAndAnotherDoesNot();
        aSamePrintIsAHitAbove();
        whatIsLeftOutIsNotOfTheKey();
        goneAndPoisonedAreNoHits();
        tooLargeHasGoneAtOnce();
        aNewEntryMakesRoom();
        asLargeAsTheQuotaIsKept();
        eachHitOfCheckIsChecked();
        aRightCheckMovesTrustOnly();
        aWrongCheckPoisons();
        aWrongCheckFindsWhatWasLeftOut();
        whatWasLeftOutIsOfOneActionAlone();
        aCheckMayBeRightThoughSettingsChanged();
        withoutAnotherWorkerNothingIsChecked();
        aFaultyCheckBlamesTheMaker();
        buildRefuses();
        buildRefusesA61stEntry();
        aCheckAt60Entries();
        checkAnswersTheOneBefore();
        recheckAnswers();
        recheckTakesThePrintsThatItGot();
        recheckIsForTheTeamOfTheEntry();
        recheckFindsWhatWasLeftOut();
        recheckRefuses();
        recheckRefusesAt60();
        ofEntryTellsAll();
        ofEntryCountsWhatCameOfIt();
        ofEntryRefuses();
        fromTellsTheEntries();
        whatWouldComeLeavesNoTrace();
        fromRefuses();
        manyTellsAll();
        manyRefuses();
        hitShareIsNotCut();
        DUE.end();
    }

    /**
     * 0 READS FILE 0; 1 READS 0 and SETTING 0; 2 READS 0, 1 and FILE 1; 3 READS FILE 2. With a TEAM
     * of QUOTA 100 and a WORKER. PRINTS as all is 0: 0, 31, 527, 93.
     */
    private static CachehallDesk chain(int fault) {
        CachehallDesk x = new CachehallDesk();
        x.action(1, 0, 0, 0, 10, 2);
        x.action(0, 1, 1, 0, 20, 3);
        x.action(2, 3, 0, 0, 1, 5);
        x.action(4, 0, 0, 0, 40, 1);
        x.team(100);
        x.worker(fault);
        return x;
    }

    /** One ACTION that READS FILE 0 and SETTINGS 0 to 2, of which 1 and 2 are LEFT OUT. */
    private static CachehallDesk leavingOut() {
        CachehallDesk x = new CachehallDesk();
        x.action(1, 0, 7, 6, 1, 1);
        x.team(100);
        x.worker(0);
        x.worker(0);
        return x;
    }

    private static void buildGetsAllThatIsReadByNumbers() {
        CachehallDesk x = chain(0);
        DUE.is(527, x.build(0, 2));
        DUE.states(x, 0, 0, 0);
        int[] prints = {0, 31, 527};
        for (int entry = 0; entry < 3; entry++) {
            DUE.is(entry, x.ofEntry(entry, 0));
            DUE.is(prints[entry], x.ofEntry(entry, 3));
        }
        DUE.is(3, x.many(8));
        DUE.is(31, x.ofWorker(0, 2));
        DUE.is(1, x.ofTeam(0, 3));
        DUE.is(93, x.build(0, 3));
        DUE.is(3, x.ofEntry(3, 0));
    }

    private static void buildTakesHits() {
        CachehallDesk x = chain(0);
        x.team(0);
        x.build(0, 2);
        DUE.is(31, x.build(1, 1));
        DUE.is(527, x.build(0, 2));
        DUE.states(x, 0, 0, 0);
        DUE.is(2, x.ofEntry(0, 4));
        DUE.is(2, x.ofEntry(1, 4));
        DUE.is(1, x.ofEntry(2, 4));
        DUE.is(3, x.many(8));
        DUE.is(5, x.many(7));
        DUE.is(31, x.ofTeam(0, 2));
        DUE.is(30, x.ofTeam(1, 2));
        DUE.is(2, x.ofTeam(0, 3));
        DUE.is(1, x.ofTeam(1, 3));
    }

    private static void aFileOfTheKeyMattersAndAnotherDoesNot() {
        CachehallDesk x = chain(0);
        x.build(0, 2);
        x.file(2, 9);
        x.file(7, 9);
        DUE.is(527, x.build(0, 2));
        DUE.is(3, x.many(3));
        x.file(1, 5);
        // 527 + 7 * 2 * 5
        DUE.is(597, x.build(0, 2));
        DUE.is(4, x.many(3));
        DUE.is(2, x.ofEntry(3, 0));
        x.file(0, 1);
        x.file(1, 0);
        // 7, 31 + 5 * 2 * 7, 62 + 5 * (2 * 7 + 3 * 101)
        DUE.is((62 + 5 * (14 + 303)) % 997, x.build(0, 2));
        DUE.is(7, x.many(3));
        x.file(0, 0);
        DUE.is(527, x.build(0, 2));
        DUE.is(7, x.many(3));
        DUE.is(2, x.ofEntry(2, 4));
    }

    private static void aSettingOfTheKeyMattersAndAnotherDoesNot() {
        CachehallDesk x = chain(0);
        x.build(0, 1);
        x.set(1, 9);
        x.set(5, 9);
        DUE.is(31, x.build(0, 1));
        DUE.is(2, x.many(3));
        x.set(0, 2);
        DUE.is(37, x.build(0, 1));
        DUE.is(3, x.many(3));
        DUE.is(1, x.ofEntry(2, 0));
        x.set(0, 0);
        DUE.is(31, x.build(0, 1));
        DUE.is(3, x.many(3));
    }

    private static void aSamePrintIsAHitAbove() {
        CachehallDesk x = new CachehallDesk();
        x.action(3, 0, 0, 0, 1, 1);
        x.action(0, 1, 0, 0, 1, 1);
        x.team(100);
        x.worker(0);
        x.file(0, 2);
        DUE.is(171, x.build(0, 1));
        x.file(0, 0);
        x.file(1, 1);
        // FILES 0 and 1 weigh 1 and 2: the PRINT of 0 is 14 again, by an ENTRY of its own.
        DUE.is(171, x.build(0, 1));
        DUE.is(3, x.many(3));
        DUE.is(0, x.ofEntry(2, 0));
        DUE.is(1, x.ofEntry(1, 4));
        DUE.is(0, x.from(1, 0));
    }

    private static void whatIsLeftOutIsNotOfTheKey() {
        CachehallDesk x = leavingOut();
        x.set(1, 1);
        DUE.is(6, x.build(0, 0));
        x.set(1, 9);
        x.set(2, 9);
        DUE.is(6, x.build(0, 0));
        DUE.states(x, 0);
        x.set(0, 1);
        // 3 * (1 + 2 * 9 + 3 * 9)
        DUE.is(138, x.build(0, 0));
        DUE.states(x, 0, 0);
    }

    private static void goneAndPoisonedAreNoHits() {
        CachehallDesk x = chain(1);
        DUE.is(94, x.build(0, 3));
        x.quota(0, 0);
        x.quota(0, 100);
        DUE.is(94, x.build(0, 3));
        DUE.states(x, 1, 0);
        x.worker(0);
        DUE.is(2, x.recheck(1));
        DUE.states(x, 1, 2, 0);
        x.quota(0, 0);
        x.quota(0, 100);
        x.mend(0, 0);
        DUE.is(93, x.build(0, 3));
        DUE.states(x, 1, 2, 1, 0);
        DUE.is(0, x.many(7));
    }

    private static void tooLargeHasGoneAtOnce() {
        CachehallDesk x = chain(0);
        x.team(4);
        DUE.is(527, x.build(1, 2));
        // SIZES 2, 3, 5 with a QUOTA of 4: the first has gone for the second, the third at once.
        DUE.states(x, 1, 0, 1);
        DUE.is(1, x.from(2, 1));
        DUE.is(0, x.from(2, 0));
        DUE.is(3, x.ofTeam(1, 1));
        x.quota(1, 0);
        DUE.is(31, x.build(1, 1));
        DUE.states(x, 1, 1, 1, 1, 1);
        DUE.is(3, x.from(4, 0));
    }

    private static void aNewEntryMakesRoom() {
        CachehallDesk x = chain(0);
        x.quota(0, 10);
        x.build(0, 2);
        // full to the last: WORTH 50, 66, 2
        DUE.states(x, 0, 0, 0);
        x.build(0, 3);
        DUE.states(x, 0, 0, 1, 0);
        DUE.is(6, x.ofTeam(0, 1));
        x.build(0, 0);
        x.build(0, 2);
        // HITS of 0 and 1 now; SIZE 5 needs one more to go: WORTH 150, 132, 400
        DUE.states(x, 0, 1, 1, 0, 0);
        DUE.is(8, x.ofTeam(0, 1));
    }

    private static void asLargeAsTheQuotaIsKept() {
        CachehallDesk x = chain(0);
        x.quota(0, 3);
        DUE.is(31, x.build(0, 1));
        // SIZE 2, then 3: that is all of the QUOTA, so the first has gone for it.
        DUE.states(x, 1, 0);
        DUE.is(3, x.ofTeam(0, 1));
        x.quota(0, 1);
        x.build(0, 3);
        DUE.states(x, 1, 1, 0);
    }

    private static void eachHitOfCheckIsChecked() {
        CachehallDesk x = chain(0);
        x.worker(0);
        x.build(0, 3);
        x.build(0, 3);
        DUE.is(0, x.ofWorker(1, 4));
        x.check(3);
        x.build(0, 3);
        DUE.is(0, x.ofWorker(1, 4));
        // the third HIT ever, of any ACTION
        x.build(0, 3);
        DUE.is(1, x.ofWorker(1, 4));
        x.build(0, 3);
        x.build(0, 3);
        DUE.is(1, x.ofWorker(1, 4));
        x.build(0, 3);
        DUE.is(2, x.ofWorker(1, 4));
        x.check(0);
        for (int n = 0; n < 6; n++) {
            x.build(0, 3);
        }
        DUE.is(2, x.ofWorker(1, 4));
        x.check(1);
        x.build(0, 3);
        x.build(0, 3);
        DUE.is(4, x.ofWorker(1, 4));
        DUE.is(14, x.ofEntry(0, 4));
    }

    private static void aRightCheckMovesTrustOnly() {
        CachehallDesk x = chain(0);
        x.worker(0);
        x.build(0, 3);
        x.check(1);
        DUE.is(93, x.build(0, 3));
        DUE.states(x, 0);
        DUE.is(1, x.ofEntry(0, 4));
        DUE.is(55, x.ofWorker(0, 0));
        DUE.is(50, x.ofWorker(1, 0));
        DUE.is(1, x.ofWorker(1, 1));
        DUE.is(40, x.ofWorker(1, 2));
        DUE.is(1, x.ofWorker(1, 4));
        DUE.is(0, x.ofWorker(0, 4));
        DUE.is(2, x.many(8));
        DUE.is(0, x.many(9));
        DUE.is(40, x.ofTeam(0, 2));
    }

    private static void aWrongCheckPoisons() {
        CachehallDesk x = chain(1);
        x.team(100);
        // 0 + 1, 31 + 5 * 2 * 1 + 1, (62 + 5 * (2 * 1 + 3 * 42) + 1)
        DUE.is(703, x.build(0, 2));
        DUE.is(94, x.build(0, 3));
        DUE.is(1, x.quota(0, 6));
        DUE.states(x, 0, 0, 1, 0);
        x.worker(0);
        x.check(1);
        DUE.is(527, x.build(1, 2));
        // 0 was WRONG, so 0 to 2 are POISONED (2 though it had GONE), 3 is not.
        DUE.states(x, 2, 2, 2, 0, 0, 0, 0);
        DUE.is(20, x.ofWorker(0, 0));
        DUE.is(3, x.ofWorker(0, 3));
        DUE.is(50, x.ofWorker(1, 0));
        DUE.is(3, x.ofWorker(1, 1));
        DUE.is(1, x.ofWorker(1, 4));
        DUE.is(1, x.many(7));
        DUE.is(1, x.many(9));
        DUE.is(10, x.ofTeam(1, 2));
        DUE.is(10, x.ofTeam(1, 1));
        for (int entry = 4; entry < 7; entry++) {
            DUE.is(entry - 4, x.ofEntry(entry, 0));
            DUE.is(1, x.ofEntry(entry, 1));
            DUE.is(1, x.ofEntry(entry, 2));
            DUE.is(0, x.ofEntry(entry, 4));
        }
        DUE.is(0, x.ofEntry(4, 3));
        DUE.is(4, x.from(5, 0));
        DUE.is(5, x.from(6, 1));
        // What is made anew is a HIT from then on, and CHECKED by the one who made the WRONG one.
        x.mend(0, 0);
        DUE.is(527, x.build(1, 2));
        DUE.is(65, x.ofWorker(1, 0));
        DUE.is(3, x.ofWorker(0, 4));
    }

    private static void aWrongCheckFindsWhatWasLeftOut() {
        CachehallDesk x = leavingOut();
        x.set(1, 1);
        DUE.is(6, x.build(0, 0));
        x.file(0, 1);
        DUE.is(13, x.build(0, 0));
        x.file(0, 0);
        x.set(1, 4);
        x.check(1);
        DUE.is(24, x.build(0, 0));
        DUE.states(x, 2, 1, 0);
        DUE.is(4, x.ofAction(0, 3));
        DUE.is(50, x.ofWorker(0, 0));
        DUE.is(50, x.ofWorker(1, 0));
        DUE.is(1, x.many(9));
        x.check(0);
        // SETTING 1 is of the KEY now, and SETTING 2 still is not.
        x.set(2, 9);
        DUE.is(24, x.build(0, 0));
        x.set(1, 1);
        DUE.is(87, x.build(0, 0));
        DUE.states(x, 2, 1, 0, 0);
        x.set(1, 4);
        DUE.is(24, x.build(0, 0));
        DUE.states(x, 2, 1, 0, 0);
    }

    private static void whatWasLeftOutIsOfOneActionAlone() {
        CachehallDesk x = leavingOut();
        x.action(1, 0, 7, 6, 1, 1);
        x.build(0, 1);
        x.file(0, 1);
        x.build(0, 0);
        x.set(1, 1);
        DUE.is(2, x.recheck(1));
        DUE.is(4, x.ofAction(0, 3));
        DUE.is(6, x.ofAction(1, 3));
        DUE.states(x, 0, 2, 0);
        x.set(2, 1);
        DUE.is(2, x.recheck(2));
        // Those that are POISONED stay so.
        DUE.states(x, 0, 2, 2, 0);
        DUE.is(0, x.ofAction(0, 3));
    }

    private static void aCheckMayBeRightThoughSettingsChanged() {
        CachehallDesk x = leavingOut();
        x.set(1, 3);
        DUE.is(18, x.build(0, 0));
        x.set(1, 0);
        x.set(2, 2);
        x.check(1);
        // 2 * 3 is 3 * 2
        DUE.is(18, x.build(0, 0));
        DUE.states(x, 0);
        DUE.is(6, x.ofAction(0, 3));
        DUE.is(55, x.ofWorker(0, 0));
    }

    private static void withoutAnotherWorkerNothingIsChecked() {
        CachehallDesk x = chain(0);
        x.build(0, 3);
        x.mend(0, 1);
        x.check(1);
        DUE.is(93, x.build(0, 3));
        DUE.is(1, x.many(8));
        DUE.is(50, x.ofWorker(0, 0));
        DUE.is(0, x.recheck(0));
        DUE.is(1, x.many(8));
        DUE.states(x, 0);
    }

    private static void aFaultyCheckBlamesTheMaker() {
        CachehallDesk x = chain(0);
        x.build(0, 3);
        x.worker(2);
        x.check(1);
        DUE.is(93, x.build(0, 3));
        DUE.is(55, x.ofWorker(0, 0));
        // the second RUN of WORKER 1: its PRINT is taken for the right one
        DUE.is(94, x.build(0, 3));
        DUE.is(25, x.ofWorker(0, 0));
        DUE.is(50, x.ofWorker(1, 0));
        DUE.states(x, 2, 0);
        DUE.is(1, x.ofEntry(1, 1));
        // Two that fail in the same way are the same.
        CachehallDesk y = chain(1);
        y.worker(1);
        y.build(0, 3);
        DUE.is(1, y.recheck(0));
    }

    private static void buildRefuses() {
        CachehallDesk x = new CachehallDesk();
        DUE.refuses(Due.INDEX, () -> x.build(0, 0));
        x.team(100);
        DUE.refuses(Due.INDEX, () -> x.build(0, 0));
        x.action(0, 0, 0, 0, 1, 1);
        DUE.refuses(Due.STATE, () -> x.build(0, 0));
        DUE.is(0, x.ofTeam(0, 3));
        x.worker(0);
        DUE.refuses(Due.INDEX, () -> x.build(-1, 0));
        DUE.refuses(Due.INDEX, () -> x.build(1, 0));
        DUE.refuses(Due.INDEX, () -> x.build(0, -1));
        DUE.refuses(Due.INDEX, () -> x.build(0, 1));
        DUE.refuses(Due.INDEX, () -> x.build(Integer.MAX_VALUE, 0));
        DUE.refuses(Due.INDEX, () -> x.build(0, Integer.MIN_VALUE));
        DUE.is(0, x.build(0, 0));
    }

    /** With 59 ENTRIES of ACTION 0, of which the last 50 are KEPT; ACTION 1 READS it. */
    private static CachehallDesk almostFull() {
        CachehallDesk x = new CachehallDesk();
        x.action(1, 0, 1, 1, 1, 2);
        x.action(0, 1, 0, 0, 1, 2);
        x.team(100);
        x.worker(0);
        x.worker(0);
        for (int n = 0; n < 59; n++) {
            x.file(0, n);
            x.build(0, 0);
        }
        return x;
    }

    private static void buildRefusesA61stEntry() {
        CachehallDesk x = almostFull();
        DUE.is(59, x.many(3));
        DUE.is(50, x.many(4));
        x.file(0, 59);
        long before = x.digest();
        // Both would be new: the first of them would be the 60th, and nothing is left of it.
        DUE.refuses(Due.STATE, () -> x.build(0, 1));
        DUE.is(before, x.digest());
        DUE.is(59, x.many(8));
        DUE.is(50, x.many(4));
        x.file(0, 58);
        DUE.is((31 + 10 * 7 * 58) % 997, x.build(0, 1));
        DUE.is(60, x.many(3));
        DUE.is((31 + 10 * 7 * 58) % 997, x.build(0, 1));
        DUE.is(3, x.many(7));
        x.file(0, 59);
        DUE.refuses(Due.STATE, () -> x.build(0, 0));
        DUE.refuses(Due.STATE, () -> x.build(0, 1));
        DUE.is(60, x.many(3));
    }

    private static void aCheckAt60Entries() {
        CachehallDesk x = almostFull();
        x.file(0, 58);
        x.build(0, 1);
        x.check(1);
        // A right one needs no ENTRY.
        DUE.is(7 * 58, x.build(0, 0));
        int checks = x.ofWorker(0, 4) + x.ofWorker(1, 4);
        DUE.is(1, checks);
        x.set(0, 1);
        long before = x.digest();
        DUE.refuses(Due.STATE, () -> x.build(0, 0));
        DUE.refuses(Due.STATE, () -> x.build(0, 1));
        DUE.is(before, x.digest());
        DUE.is(1, x.ofAction(0, 3));
        DUE.is(0, x.many(9));
        DUE.is(0, x.many(6));
        DUE.is(2, x.many(7));
        x.check(0);
        DUE.is(7 * 58, x.build(0, 0));
    }

    private static void checkAnswersTheOneBefore() {
        CachehallDesk x = new CachehallDesk();
        for (int check = 0; check <= 9; check++) {
            DUE.is(Math.max(0, check - 1), x.check(check));
        }
        int[] bad = {-1, 10, Integer.MIN_VALUE, Integer.MAX_VALUE};
        for (int check : bad) {
            DUE.refuses(Due.ARGUMENT, () -> x.check(check));
        }
        DUE.is(9, x.check(0));
        DUE.is(0, x.check(0));
    }

    private static void recheckAnswers() {
        CachehallDesk x = chain(1);
        x.build(0, 2);
        DUE.is(0, x.recheck(0));
        x.worker(0);
        DUE.is(2, x.recheck(1));
        // ENTRY 0 is not looked at: of its PRINT 1 the right PRINT of 1 is 41.
        DUE.states(x, 0, 2, 2, 0);
        DUE.is(41, x.ofEntry(3, 3));
        DUE.is(1, x.ofEntry(3, 0));
        DUE.is(1, x.ofEntry(3, 1));
        DUE.is(0, x.from(3, 0));
        DUE.is(20, x.ofWorker(0, 0));
        x.mend(0, 0);
        DUE.is(1, x.recheck(3));
        DUE.is(55, x.ofWorker(1, 0));
        DUE.is(1, x.ofWorker(0, 4));
        DUE.is(1, x.ofWorker(1, 4));
        DUE.states(x, 0, 2, 2, 0);
        // no HIT is counted, nor SAVED or BUILT anything
        DUE.is(0, x.many(7));
        DUE.is(0, x.ofEntry(1, 4));
        DUE.is(0, x.ofTeam(0, 2));
        DUE.is(1, x.ofTeam(0, 3));
        DUE.is(1, x.many(9));
        DUE.is(5, x.many(8));
    }

    private static void recheckTakesThePrintsThatItGot() {
        CachehallDesk x = chain(0);
        x.build(0, 2);
        x.worker(1);
        x.file(0, 50);
        x.build(0, 0);
        // What ENTRY 1 got is another one now, but its own KEY stands.
        DUE.is(2, x.recheck(1));
        DUE.is(32, x.ofEntry(4, 3));
        DUE.is(0, x.from(4, 0));
        DUE.states(x, 0, 2, 2, 0, 0);
        // So it is a HIT once the PRINT of 0 is what it was.
        x.file(0, 0);
        DUE.is(32, x.build(0, 1));
        DUE.is(1, x.ofEntry(4, 4));
    }

    private static void recheckIsForTheTeamOfTheEntry() {
        CachehallDesk x = chain(1);
        x.team(2);
        x.build(1, 3);
        x.build(0, 0);
        x.worker(0);
        DUE.is(2, x.recheck(0));
        DUE.is(1, x.ofEntry(2, 2));
        DUE.is(1, x.ofTeam(1, 4));
        DUE.is(1, x.ofTeam(1, 1));
        DUE.is(1, x.ofTeam(0, 4));
        // The new one makes room by the rules of section 6, among those of its TEAM.
        CachehallDesk y = chain(1);
        y.team(3);
        y.build(1, 3);
        y.build(1, 0);
        y.worker(0);
        DUE.states(y, 0, 0);
        DUE.is(2, y.recheck(0));
        DUE.states(y, 2, 0, 0);
        DUE.is(2, y.recheck(1));
        DUE.states(y, 2, 2, 0, 0);
        DUE.is(3, y.ofTeam(1, 1));
    }

    private static void recheckFindsWhatWasLeftOut() {
        CachehallDesk x = leavingOut();
        x.build(0, 0);
        x.file(0, 1);
        x.build(0, 0);
        x.set(1, 1);
        x.set(2, 1);
        DUE.is(2, x.recheck(1));
        DUE.states(x, 1, 2, 0);
        DUE.is(0, x.ofAction(0, 3));
        DUE.is(22, x.ofEntry(2, 3));
        DUE.is(50, x.ofWorker(0, 0));
        x.set(2, 0);
        // now of its KEY, and another one
        DUE.refuses(Due.STATE, () -> x.recheck(2));
        x.set(2, 1);
        DUE.is(1, x.recheck(2));
    }

    private static void recheckRefuses() {
        CachehallDesk x = chain(0);
        DUE.refuses(Due.INDEX, () -> x.recheck(0));
        x.build(0, 2);
        x.worker(0);
        DUE.refuses(Due.INDEX, () -> x.recheck(3));
        DUE.refuses(Due.INDEX, () -> x.recheck(-1));
        DUE.refuses(Due.INDEX, () -> x.recheck(60));
        DUE.refuses(Due.INDEX, () -> x.recheck(Integer.MAX_VALUE));
        DUE.refuses(Due.INDEX, () -> x.recheck(Integer.MIN_VALUE));
        x.file(1, 1);
        DUE.refuses(Due.STATE, () -> x.recheck(2));
        DUE.is(1, x.recheck(1));
        DUE.is(1, x.recheck(0));
        x.file(1, 0);
        DUE.is(1, x.recheck(2));
        x.set(0, 1);
        DUE.refuses(Due.STATE, () -> x.recheck(1));
        DUE.is(1, x.recheck(2));
        x.set(0, 0);
        x.set(1, 5);
        x.file(7, 5);
        DUE.is(1, x.recheck(1));
        x.quota(0, 5);
        DUE.states(x, 0, 0, 1);
        DUE.refuses(Due.STATE, () -> x.recheck(2));
        x.mend(1, 1);
        DUE.is(2, x.recheck(0));
        DUE.refuses(Due.STATE, () -> x.recheck(0));
        DUE.refuses(Due.STATE, () -> x.recheck(1));
    }

    private static void recheckRefusesAt60() {
        CachehallDesk x = almostFull();
        x.file(0, 58);
        DUE.is(1, x.recheck(58));
        x.file(0, 59);
        x.build(0, 0);
        DUE.is(60, x.many(3));
        DUE.refuses(Due.STATE, () -> x.recheck(59));
        DUE.refuses(Due.INDEX, () -> x.recheck(60));
        DUE.is(60, x.many(8) - 1);
    }

    private static void ofEntryTellsAll() {
        CachehallDesk x = chain(0);
        x.worker(0);
        x.team(100);
        x.file(0, 3);
        x.build(1, 1);
        x.build(0, 1);
        x.build(0, 0);
        // WORTH 10 * 4 ... : COST 10, 2 HITS, SIZE 2; COST 20, 1 HIT, SIZE 3, cut towards 0
        int[] due0 = {0, 0, 1, 21, 2, 0, 150, 1};
        int[] due1 = {1, 1, 1, 241, 1, 0, 133, 0};
        for (int what = 0; what <= 7; what++) {
            DUE.is(due0[what], x.ofEntry(0, what));
            DUE.is(due1[what], x.ofEntry(1, what));
        }
        x.quota(1, 3);
        DUE.is(0, x.ofEntry(0, 5));
        DUE.is(1, x.ofEntry(1, 5));
        DUE.is(133, x.ofEntry(1, 6));
    }

    private static void ofEntryCountsWhatCameOfIt() {
        CachehallDesk x = chain(0);
        x.build(0, 2);
        x.build(0, 3);
        x.file(1, 1);
        x.build(0, 2);
        int[] due = {3, 2, 0, 0, 0};
        for (int entry = 0; entry < due.length; entry++) {
            DUE.is(due[entry], x.ofEntry(entry, 7));
        }
        // GONE or POISONED, they count all the same.
        x.quota(0, 0);
        DUE.is(3, x.ofEntry(0, 7));
        // By way of another one: a line of five, each of which READS the one before alone.
        CachehallDesk y = new CachehallDesk();
        y.action(0, 0, 0, 0, 1, 1);
        for (int n = 1; n < 5; n++) {
            y.action(0, 1 << (n - 1), 0, 0, 1, 1);
        }
        y.worker(1);
        y.team(100);
        y.build(0, 4);
        for (int entry = 0; entry < 5; entry++) {
            DUE.is(4 - entry, y.ofEntry(entry, 7));
        }
        y.worker(0);
        DUE.is(2, y.recheck(2));
        DUE.states(y, 0, 0, 2, 2, 2, 0);
        DUE.is(5, y.ofEntry(0, 7));
        DUE.is(4, y.ofEntry(1, 7));
        DUE.is(2, y.ofEntry(2, 7));
        DUE.is(0, y.ofEntry(5, 7));
    }

    private static void ofEntryRefuses() {
        CachehallDesk x = chain(0);
        x.build(0, 3);
        for (int what = 0; what <= 7; what++) {
            int asked = what;
            DUE.refuses(Due.INDEX, () -> x.ofEntry(1, asked));
            DUE.refuses(Due.INDEX, () -> x.ofEntry(-1, asked));
        }
        DUE.refuses(Due.INDEX, () -> x.ofEntry(60, 0));
        DUE.refuses(Due.INDEX, () -> x.ofEntry(Integer.MIN_VALUE, 0));
        DUE.refuses(Due.ARGUMENT, () -> x.ofEntry(0, -1));
        DUE.refuses(Due.ARGUMENT, () -> x.ofEntry(0, 8));
        DUE.refuses(Due.INDEX, () -> x.ofEntry(1, 8));
    }

    private static void fromTellsTheEntries() {
        CachehallDesk x = chain(0);
        x.build(0, 3);
        x.build(0, 2);
        DUE.is(1, x.from(2, 0));
        DUE.is(1, x.from(3, 0));
        DUE.is(2, x.from(3, 1));
        x.set(0, 1);
        x.build(0, 2);
        DUE.is(1, x.from(4, 0));
        DUE.is(1, x.from(5, 0));
        DUE.is(4, x.from(5, 1));
        // A HIT is told by its own ENTRY, whatever was got in the BUILD before.
        x.file(0, 1);
        x.build(0, 0);
        x.file(0, 0);
        x.set(0, 2);
        x.build(0, 1);
        DUE.is(1, x.ofEntry(7, 0));
        DUE.is(1, x.from(7, 0));
    }

    private static void whatWouldComeLeavesNoTrace() {
        CachehallDesk x = chain(0);
        DUE.is(3, x.wouldRun(0, 2));
        x.build(0, 3);
        x.build(0, 0);
        x.build(0, 1);
        // Of what would have come, 1 was from 0, and 2 from both.
        DUE.is(0, x.ofEntry(0, 7));
        DUE.is(1, x.ofEntry(1, 7));
        DUE.is(0, x.ofEntry(2, 7));
    }

    private static void fromRefuses() {
        CachehallDesk x = chain(0);
        DUE.refuses(Due.INDEX, () -> x.from(0, 0));
        x.build(0, 2);
        // not READ by its ACTION, even if by what that READS
        DUE.refuses(Due.INDEX, () -> x.from(0, 0));
        DUE.refuses(Due.INDEX, () -> x.from(1, 1));
        DUE.refuses(Due.INDEX, () -> x.from(2, 2));
        DUE.refuses(Due.INDEX, () -> x.from(2, 3));
        DUE.refuses(Due.INDEX, () -> x.from(2, -1));
        DUE.refuses(Due.INDEX, () -> x.from(2, 4));
        DUE.refuses(Due.INDEX, () -> x.from(1, 14));
        DUE.refuses(Due.INDEX, () -> x.from(1, 32));
        DUE.refuses(Due.INDEX, () -> x.from(2, Integer.MAX_VALUE));
        DUE.refuses(Due.INDEX, () -> x.from(2, Integer.MIN_VALUE));
        DUE.refuses(Due.INDEX, () -> x.from(3, 0));
        DUE.refuses(Due.INDEX, () -> x.from(-1, 0));
    }

    private static void manyTellsAll() {
        CachehallDesk x = chain(1);
        x.team(1);
        x.team(1);
        x.build(0, 2);
        x.build(1, 3);
        x.build(0, 1);
        x.quota(1, 0);
        x.worker(0);
        x.recheck(1);
        // ENTRIES: 0 KEPT, 1 and 2 POISONED, 3 GONE, 4 KEPT
        int[] due = {4, 2, 3, 5, 2, 1, 2, 2, 5, 1};
        for (int what = 0; what <= 9; what++) {
            DUE.is(due[what], x.many(what));
        }
    }

    private static void manyRefuses() {
        CachehallDesk x = chain(0);
        int[] bad = {-1, 10, Integer.MIN_VALUE, Integer.MAX_VALUE};
        for (int what : bad) {
            DUE.refuses(Due.ARGUMENT, () -> x.many(what));
        }
    }

    private static void hitShareIsNotCut() {
        CachehallDesk x = chain(0);
        DUE.is(0.0, x.hitShare());
        x.build(0, 2);
        DUE.is(0.0, x.hitShare());
        x.build(0, 0);
        DUE.is(0.25, x.hitShare());
        x.build(0, 2);
        DUE.is(4.0 / 7.0, x.hitShare());
        x.quota(0, 0);
        DUE.is(4.0 / 7.0, x.hitShare());
    }
}
