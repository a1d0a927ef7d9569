/** Objects with which several tests begin. */
final class Halls {
    private Halls() {
    }

    /** ACTION n READS FILE n alone, of the COST and the SIZE given. A TEAM of the QUOTA given, no WORKER. */
    static CachehallDesk plain(int actions, int cost, int size, int quota) {
        CachehallDesk x = new CachehallDesk();
        for (int n = 0; n < actions; n++) {
            x.action(1 << n, 0, 0, 0, cost, size);
        }
        x.team(quota);
        return x;
    }

    static CachehallDesk withWorkers(CachehallDesk x, int... faults) {
        for (int fault : faults) {
            x.worker(fault);
        }
        return x;
    }

    /** WORKER 0 has a TRUST of 15; WORKER 1, with 50, made the ENTRIES 2 and 3 that are KEPT. */
    static CachehallDesk withATrustOf15() {
        CachehallDesk x = withWorkers(plain(2, 1, 1, 100), 0);
        x.build(0, 0);
        x.build(0, 1);
        x.worker(0);
        for (int n = 0; n < 5; n++) {
            x.recheck(0);
        }
        x.mend(1, 1);
        x.recheck(0);
        x.recheck(1);
        return x;
    }
}
