import java.math.BigInteger;
import java.util.function.Supplier;

/** Objects with which several tests begin. */
final class Halls {
    private Halls() {
    }

    /** ACTION n READS FILE n alone, of the COST and the SIZE given. A TEAM of the QUOTA given, no WORKER. */
    static CachehallDesk plain(int actions, int cost, int size, int quota) {
        CachehallDesk x = new CachehallDesk();
        for (int n = 0; n < actions; n++) {
            x.action(1 << n, 0, 0, 0, cost, size);
        }
        x.team(quota);
        return x;
    }

    static CachehallDesk withWorkers(CachehallDesk x, int... faults) {
        for (int fault : faults) {
            x.worker(fault);
        }
        return x;
    }

    /** WORKER 0 has a TRUST of 15; WORKER 1, with 50, made the ENTRIES 2 and 3 that are KEPT. */
    static CachehallDesk withATrustOf15() {
        CachehallDesk x = withWorkers(plain(2, 1, 1, 100), 0);
        x.build(0, 0);
        x.build(0, 1);
        x.worker(0);
        for (int n = 0; n < 5; n++) {
            x.recheck(0);
        }
        x.mend(1, 1);
        x.recheck(0);
        x.recheck(1);
        return x;
    }

    private interface Value {
        int of(CachehallDesk x, int number, int what);
    }

    /** What digest() is due to be, ahead of its wrapping around, by the other calls. */
    static BigInteger checksum(Supplier<CachehallDesk> made) {
        CachehallDesk seen = made.get();
        int actions = seen.many(0);
        BigInteger d = BigInteger.valueOf(5747);
        d = goOn(d, made, 1, 10, (x, n, what) -> x.many(what));
        d = goOn(d, made, actions, 8, CachehallDesk::ofAction);
        d = goOn(d, made, seen.many(1), 5, CachehallDesk::ofWorker);
        d = goOn(d, made, seen.many(2), 5 + actions,
                (x, team, what) -> what < 5 ? x.ofTeam(team, what) : x.wouldRun(team, what - 5));
        d = goOn(d, made, seen.many(3), 8, CachehallDesk::ofEntry);
        return goOn(d, made, 8, 1, (x, file, what) -> x.touched(file));
    }

    /** Each one is asked of an object of its own, so that none comes to more than 512 calls. */
    private static BigInteger goOn(BigInteger d, Supplier<CachehallDesk> made, int count, int whats, Value value) {
        BigInteger sum = d;
        for (int n = 0; n < count; n++) {
            CachehallDesk x = made.get();
            for (int what = 0; what < whats; what++) {
                sum = sum.multiply(BigInteger.valueOf(31)).add(BigInteger.valueOf(value.of(x, n, what)));
            }
        }
        return sum;
    }
}
