import java.util.function.Supplier;

/** The answers of the what-if questions, worked out by making the changes that they ask about. */
final class ByFace {
    private ByFace() {
    }

    private static int visitsSoFar(VendingRoutes x) {
        int visits = 0;
        for (int m = 0; m < x.machines(); m++) {
            visits += x.visitsOf(m);
        }
        return visits;
    }

    static int visits(Supplier<VendingRoutes> maker, int n) {
        VendingRoutes x = maker.get();
        int before = visitsSoFar(x);
        x.advance(n);
        return visitsSoFar(x) - before;
    }

    static int firstLoss(Supplier<VendingRoutes> maker, int n) {
        VendingRoutes x = maker.get();
        for (int day = 1; day <= n; day++) {
            if (x.advance(1) > 0) {
                return day;
            }
        }
        return VendingRoutes.NONE;
    }

    static int bestLevel(Supplier<VendingRoutes> maker, int n) {
        int best = VendingRoutes.NONE;
        long leastCost = 0;
        int fewestVisits = 0;
        for (int level = 0; level <= 100; level += 10) {
            VendingRoutes x = maker.get();
            x.setLevel(level);
            x.advance(n);
            int visits = visitsSoFar(x);
            long cost = x.lostCost();
            if (best < 0 || cost < leastCost || cost == leastCost && visits < fewestVisits) {
                best = level;
                leastCost = cost;
                fewestVisits = visits;
            }
        }
        return best;
    }

    static int bestForce(Supplier<VendingRoutes> maker, int n) {
        VendingRoutes without = maker.get();
        without.advance(n);
        long leastCost = without.lostCost();
        int best = VendingRoutes.NONE;
        for (int m = 0; m < without.machines(); m++) {
            VendingRoutes x = maker.get();
            x.force(m);
            x.advance(n);
            if (x.lostCost() < leastCost) {
                best = m;
                leastCost = x.lostCost();
            }
        }
        return best;
    }

    static long mixGain(Supplier<VendingRoutes> maker, int machine, int slot, int product, int rate, int n) {
        VendingRoutes without = maker.get();
        without.advance(n);
        VendingRoutes with = maker.get();
        with.changeMix(machine, slot, product, rate);
        with.advance(n);
        return with.profit() - without.profit();
    }
}
