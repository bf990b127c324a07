import java.util.function.Supplier;

/** All that can be seen of an object, as a text. The object is used up by it: its changes are undone at the end. */
final class Snapshot {
    private final VendingRoutes x;
    private final StringBuilder all = new StringBuilder();

    private Snapshot(VendingRoutes of) {
        x = of;
    }

    static String of(VendingRoutes x) {
        Snapshot snapshot = new Snapshot(x);
        snapshot.texts();
        return snapshot.all + ofFleet(x);
    }

    /** Without the input buffer, the error of the text, and the report. */
    static String ofFleet(VendingRoutes x) {
        Snapshot snapshot = new Snapshot(x);
        snapshot.totals();
        for (int m = 0; m < x.machines(); m++) {
            snapshot.machine(m);
        }
        snapshot.route();
        snapshot.log();
        snapshot.future();
        snapshot.past();
        return snapshot.all.toString();
    }

    private void tell(String what, Supplier<Object> call) {
        Object answer;
        try {
            answer = call.get();
        } catch (RuntimeException e) {
            answer = e.getClass().getSimpleName();
        }
        all.append(what).append(' ').append(answer).append('\n');
    }

    private void totals() {
        tell("day", x::day);
        tell("machines", x::machines);
        tell("products", x::products);
        tell("rules", x::rules);
        tell("account", x::account);
        tell("deposited", x::deposited);
        tell("shortage", x::shortage);
        tell("minutes", x::minutes);
        tell("leftover", x::leftover);
        tell("lostCost", x::lostCost);
        tell("profit", x::profit);
        tell("events", x::events);
        tell("undoable", x::undoable);
    }

    private void texts() {
        tell("buffered", x::buffered);
        tell("parseError", x::parseError);
        tell("errorPosition", x::errorPosition);
        try {
            for (int i = 0; i < 60; i++) {
                all.append((char) x.reportByte(i));
            }
        } catch (IndexOutOfBoundsException e) {
            all.append(" is the report\n");
        }
    }

    private void machine(int m) {
        tell("slots", () -> x.slots(m));
        tell("risk", () -> x.risk(m));
        tell("isDue", () -> x.isDue(m));
        tell("daysLeft", () -> x.daysLeft(m));
        tell("cashIn", () -> x.cashIn(m));
        tell("visitsOf", () -> x.visitsOf(m));
        tell("lastVisit", () -> x.lastVisit(m));
        tell("way", () -> x.minutesBetween(VendingRoutes.NONE, m));
        tell("worst", () -> x.worst(m));
        for (int r = 0; r < x.rules(); r++) {
            int rule = r;
            tell("rule", () -> x.isRuleMet(rule, m));
        }
        for (int s = 0; s < x.slots(m); s++) {
            slot(m, s);
        }
    }

    private void slot(int m, int s) {
        tell("productOf", () -> x.productOf(m, s));
        tell("stockOf", () -> x.stockOf(m, s));
        tell("soldOf", () -> x.soldOf(m, s));
        tell("filledOf", () -> x.filledOf(m, s));
        tell("returnedOf", () -> x.returnedOf(m, s));
        tell("lostOf", () -> x.lostOf(m, s));
        tell("pendingOf", () -> x.pendingOf(m, s));
        tell("estimateOf", () -> x.estimateOf(m, s));
        tell("rateOf", () -> x.rateOf(m, s));
        for (int day = 1; day <= 12; day++) {
            int asked = day;
            tell("reports", () -> x.reports(m, s, asked));
        }
    }

    private void route() {
        tell("routeLength", x::routeLength);
        tell("routeMinutes", x::routeMinutes);
        for (int p = 0; p < x.products(); p++) {
            int product = p;
            tell("plannedLoad", () -> x.plannedLoad(product));
            tell("stockOfProduct", () -> x.stockOfProduct(product));
        }
        for (int place = 0; place < x.machines(); place++) {
            int asked = place;
            tell("routeAt", () -> x.routeAt(asked));
        }
    }

    private void log() {
        int told = Math.min(x.events(), 10);
        for (int i = 0; i < told; i++) {
            int number = i;
            tell("event", () -> x.event(number, 0) + " " + x.event(number, 1) + " " + x.event(number, 2) + " "
                    + x.event(number, 3));
        }
    }

    /** What is not told at once, such as the RATE of a pending mix change, shows later. */
    private void future() {
        tell("lostIn", () -> x.lostIn(9));
        tell("visitsIn", () -> x.visitsIn(30));
        tell("mixGain", () -> x.mixGain(0, 0, 0, 77, 9));
        tell("advance", () -> x.advance(5));
        moment();
        tell("undo", x::undo);
    }

    private void past() {
        settings();
        for (int i = 0; i < 7; i++) {
            tell("undo", x::undo);
            moment();
        }
        settings();
        for (int place = 0; place < 2; place++) {
            int asked = place;
            tell("restore", () -> x.restore(asked));
            moment();
            settings();
        }
    }

    /** What a state is known by, in few calls. */
    private void moment() {
        tell("day", x::day);
        tell("account", x::account);
        tell("deposited", x::deposited);
        tell("profit", x::profit);
        tell("events", x::events);
        tell("route", x::routeMinutes);
        tell("pendingOf", () -> x.pendingOf(0, 1));
        tell("rateOf", () -> x.rateOf(0, 0));
        tell("reports", () -> x.reports(1, 0, 7));
    }

    private void settings() {
        tell("setLevel", () -> x.setLevel(30));
        tell("undo", x::undo);
        tell("setShift", () -> x.setShift(80));
        tell("undo", x::undo);
    }
}
