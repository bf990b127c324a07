import java.util.List;
import java.util.function.BiFunction;
import java.util.function.Function;
import java.util.function.Supplier;

/** The sentences of the promises 37 to 64: the totals, the log, the what-if questions, and the changes. */
final class ChangeChecks {
    private static final int NONE = VendingRoutes.NONE;
    private static final Class<?> STATE = CallChecks.STATE;
    private static final Class<?> INDEX = CallChecks.INDEX;
    private static final Class<?> ARGUMENT = CallChecks.ARGUMENT;
    private static final int MIN = CallChecks.MIN;
    private static final int MAX = CallChecks.MAX;
    private static final Supplier<VendingRoutes> BUSY = CallChecks.BUSY;
    private static final Supplier<VendingRoutes> SIX = CallChecks.SIX;
    private static final Supplier<VendingRoutes> DAY_1940 = () -> CallChecks.onDay(1940);
    private static final Supplier<VendingRoutes> DAY_1941 = () -> CallChecks.onDay(1941);
    private static final Supplier<VendingRoutes> DAY_1900 = () -> CallChecks.onDay(1900);
    private static final Supplier<VendingRoutes> DAY_1901 = () -> CallChecks.onDay(1901);

    private final Sentences s;

    ChangeChecks(Sentences sentences) {
        s = sentences;
    }

    void all() {
        deposits();
        totals();
        losses();
        log();
        report();
        numbersOfDays();
        whatIf();
        bestLevel();
        bestForce();
        mixGain();
        advance();
        force();
        changeMix();
        settings();
        gaps();
        undo();
        places();
    }

    private static String event(VendingRoutes x, int number) {
        return x.event(number, 0) + " " + x.event(number, 1) + " " + x.event(number, 2) + " " + x.event(number, 3);
    }

    /** A machine at the depot that sells two units at 7 a day and is visited on each day; another one out of reach. */
    private static VendingRoutes daily() {
        return Fleets.loaded(Fleets.head(9, 9, 3, 0, 0, 1) + ";product 7 2 5;machine 0 0;slot 0 9 9 200"
                + ";machine 9 9;slot 0 9 9 100;rule days > 0");
    }

    private static VendingRoutes without(boolean isTried) {
        return isTried ? CallChecks.REFUSED.get() : CallChecks.FRESH.get();
    }

    // ---- promises 37 to 45

    private void deposits() {
        s.tellsNothing("promise 37", "---- totals and the log");
        s.of("promise 37", "Returns the cash that the driver has collected and not deposited.",
                "Returns the amount in cents; 0 if there is no fleet.");
        s.is(without(false).account() + " " + without(true).account(), "0 0");
        VendingRoutes x = daily();
        int[] due = {0, 0, 14, 28};
        for (int amount : due) {
            s.is(x.account(), amount);
            x.advance(1);
        }
        x.deposit(40);
        s.is(x.account(), 0);
        x.advance(1);
        s.is(x.account(), 14);

        s.of("promise 38", "Returns the sum of all deposits.", "Returns the amount in cents; 0 if there is no fleet.");
        s.is(without(false).deposited() + " " + without(true).deposited(), "0 0");
        VendingRoutes y = daily();
        s.is(y.deposited(), 0L);
        y.deposit(0);
        s.is(y.deposited(), 0L);
        long sum = 0;
        for (int i = 1; i <= 5; i++) {
            y.deposit(1000000000);
            sum += 1000000000;
            s.is(y.deposited(), sum);
        }

        s.of("promise 39", "Returns the sum of what was missing at all deposits.",
                "Returns the amount in cents, negative if more was deposited than collected; 0 if there is no fleet.");
        s.is(without(false).shortage() + " " + without(true).shortage(), "0 0");
        s.is(y.shortage(), -5000000000L);
        VendingRoutes z = daily();
        z.advance(3);
        z.deposit(28);
        s.is(z.shortage(), 0L);
        z.advance(1);
        z.deposit(13);
        s.is(z.shortage(), 1L);
        z.advance(1);
        z.deposit(16);
        s.is(z.shortage(), -1L);
        z.advance(2);
        z.deposit(0);
        s.is(z.shortage() + " " + z.deposited(), "27 57");
    }

    private void totals() {
        s.of("promise 40", "Returns the sum of the minutes of all routes that were driven.",
                "Returns the minutes; 0 if there is no fleet.");
        s.is(without(false).minutes() + " " + without(true).minutes(), "0 0");
        VendingRoutes x = daily();
        s.is(x.minutes(), 0);
        x.routeMinutes();
        x.lostIn(5);
        s.is(x.minutes(), 0);
        x.advance(1);
        s.is(x.minutes(), 3);
        x.advance(9);
        s.is(x.minutes(), 30);
        x.setShift(2);
        x.advance(9);
        s.is(x.minutes(), 30);
        x.setShift(999);
        // Both machines: 36 minutes on the way and two visits.
        x.advance(1);
        s.is(x.minutes(), 72);
        VendingRoutes most = Fleets.loaded(Fleets.head(999, 0, 99, 0, 0, 1) + ";machine 99 99;machine 99 98"
                + ";machine 98 99;machine 98 98;machine 97 98;rule days > 0");
        for (int i = 0; i < 20; i++) {
            most.advance(100);
        }
        s.is(most.minutes(), 2000 * (396 + 5 * 99));

        s.of("promise 41", "Returns how many loaded units came back to the depot",
                "Returns the number of units; 0 if there is no fleet.");
        s.is(without(false).leftover() + " " + without(true).leftover(), "0 0");
        // At 33 the estimates are 8.67, 8.34 and 8.01, and there are 9, 9 and 9 units: one unit each is loaded in vain.
        String slow = ";product 1 1 1;machine 0 0 gap 1 99;slot 0 9 9 33;slot 0 9 9 33;rule days = 4";
        VendingRoutes y = Fleets.loaded(Fleets.head(9, 9, 0, 0, 0, 1) + slow);
        y.advance(3);
        s.is(y.leftover() + " " + y.plannedLoad(0), "0 2");
        y.advance(1);
        s.is(y.leftover() + " " + y.filledOf(0, 0), "2 0");
        VendingRoutes less = Fleets.loaded(Fleets.head(9, 1, 0, 0, 0, 1) + slow);
        less.advance(4);
        s.is(less.leftover(), 1);
        // Of whichever product they are.
        for (int product = 0; product < 6; product++) {
            VendingRoutes z = Fleets.loaded(Fleets.head(9, 9, 0, 0, 0, 1) + ";product 1 1 1".repeat(5)
                    + slow.replace("slot 0", "slot " + product));
            z.advance(4);
            s.is(z.leftover() + " " + z.filledOf(0, 0) + " " + z.filledOf(0, 1), "2 0 0");
        }
    }

    private void losses() {
        s.of("promise 42", "Returns the cost of all units that could not be sold",
                "Returns the cost in cents; 0 if there is no fleet.");
        s.is(without(false).lostCost() + " " + without(true).lostCost(), "0 0");
        // A unit of product 0 is lost on day 1; then the slot gets product 1, without a unit, and loses two of it.
        VendingRoutes x = Fleets.loaded(Fleets.head(9, 0, 0, 0, 0, 1) + ";product 1 1 5;product 1 1 999;product 1 1 0"
                + ";machine 0 0;slot 0 9 0 100");
        s.is(x.lostCost(), 0L);
        x.advance(1);
        s.is(x.lostCost(), 5L);
        x.changeMix(0, 0, 1, 200);
        s.is(x.lostCost(), 5L);
        x.advance(1);
        s.is(x.lostCost(), 5L + 2 * 999L);
        x.changeMix(0, 0, 2, 2000);
        x.advance(9);
        s.is(x.lostCost() + " " + x.lostOf(0, 0), 5L + 2 * 999L + " " + (3 + 180));
        VendingRoutes most = Fleets.loaded(Fleets.head(1, 0, 0, 0, 0, 1) + ";product 1 0 999"
                + (";machine 9 9" + ";slot 0 1 0 2000".repeat(5)).repeat(8));
        for (int i = 0; i < 20; i++) {
            s.is(most.advance(100), 80000);
        }
        s.is(most.lostCost() + " " + most.profit(), 1598400000L + " " + -1598400000L);

        s.of("promise 43", "Returns the sum of the PRICE of all sold units",
                "Returns the profit in cents, possibly negative; 0 if there is no fleet.");
        s.is(without(false).profit() + " " + without(true).profit(), "0 0");
        String text = Fleets.head(9, 9, 0, 0, 0, 1) + ";product 100 30 7;product 999 300 70;machine 0 0"
                + ";slot 0 9 4 200";
        VendingRoutes y = Fleets.loaded(text);
        s.is(y.profit(), 0L);
        y.advance(1);
        s.is(y.profit(), 200L);
        y.advance(2);
        // 2 more on day 2, and on day 3, when the estimate is 0, 9 units are filled and 2 sold.
        s.is(y.profit(), 600L - 9 * 30L);
        y.changeMix(0, 0, 1, 1000);
        y.advance(1);
        // 7 units go back, 9 of product 1 are filled and sold, and one is lost.
        s.is(y.profit(), 600L - 9 * 30L + 7 * 30L + 9 * 999L - 9 * 300L - 70L);
        VendingRoutes loss = Fleets.loaded(Fleets.head(9, 9, 0, 0, 100, 1)
                + ";product 1 999 0;machine 0 0;slot 0 9 0 0");
        loss.advance(1);
        s.is(loss.profit(), -9 * 999L);
    }

    private void log() {
        s.of("promise 44", "Returns the number of events that are kept.", "Returns 0 to 300; 0 if there is no fleet.");
        s.is(without(false).events() + " " + without(true).events(), "0 0");
        VendingRoutes x = daily();
        s.is(x.events(), 0);
        for (int i = 1; i <= 3; i++) {
            x.advance(100);
            s.is(x.events(), 100 * i);
        }
        x.advance(1);
        x.deposit(1);
        s.is(x.events(), 300);
        VendingRoutes full = daily();
        full.advance(100);
        full.advance(100);
        full.advance(99);
        full.deposit(5);
        s.is(full.events(), 300);
        s.is(event(full, 298) + ", " + event(full, 299), "299 0 0 2, 299 2 5 " + 14 * 298);

        s.of("promise 45", "Returns a part of an event (section 5).", "Returns the part.");
        VendingRoutes y = Fleets.loaded(Fleets.head(9, 9, 0, 0, 0, 1) + ";product 7 1 1;machine 9 9;machine 0 0"
                + ";slot 0 9 9 0;slot 0 9 4 100");
        y.changeMix(1, 1, 0, 100);
        y.advance(1);
        y.force(1);
        y.advance(1);
        y.deposit(1000000000);
        s.is(y.events(), 4);
        s.of("promise 45", "- `number`: from 0");
        s.is(y.event(0, 1) + " " + y.event(3, 1), "1 2");
        s.of("promise 45", "- `what`: 0: the day; 1: the kind");
        // A mix change of machine 1, slot 1; a visit to it with 9 units, and one with 1; a deposit with 7 in the
        // account.
        String[] due = {"1 1 1 1", "1 0 1 9", "2 0 1 1", "2 2 1000000000 7"};
        for (int i = 0; i < due.length; i++) {
            s.is(event(y, i), due[i]);
        }
        s.of("promise 45", "Throws `IndexOutOfBoundsException` if there is no such event");
        for (int number : new int[] {-1, 3, 4, 300, MAX, MIN}) {
            s.refuses(BUSY, INDEX, z -> z.event(number, 0));
        }
        s.is(BUSY.get().event(2, 0), 4);
        s.fails(INDEX, () -> daily().event(0, 0));
        s.fails(INDEX, () -> full.event(300, 0));
        VendingRoutes undone = daily();
        undone.advance(2);
        undone.undo();
        s.fails(INDEX, () -> undone.event(0, 0));
        s.of("promise 45", "Throws `IllegalArgumentException` if what is not 0 to 3");
        for (int what : new int[] {-1, 4, 5, MAX, MIN}) {
            s.refuses(BUSY, ARGUMENT, z -> z.event(0, what));
            s.refuses(BUSY, ARGUMENT, z -> z.event(2, what));
        }
        s.is(event(BUSY.get(), 0) + ", " + event(BUSY.get(), 2), "1 0 0 6, 4 2 700 750");
    }

    // ---- promises 46 and 47

    private void report() {
        s.tellsNothing("promise 46", "---- what-if questions");
        s.of("promise 46", "Writes a report, which replaces the text that was written before.");
        VendingRoutes x = Fleets.loaded(Fleets.FAR);
        s.is(CallChecks.reportOf(x), "0:3/10");
        x.advance(1);
        s.is((char) x.reportByte(2), '3');
        s.is(CallChecks.reportOf(x), "0:1/10");
        VendingRoutes shorter = Fleets.loaded(Fleets.HEAD + ";machine 0 0;slot 0 99 10 2000");
        s.is(shorter.report(), 7);
        shorter.setLevel(0);
        shorter.advance(1);
        s.is(shorter.report(), 6);
        s.fails(INDEX, () -> shorter.reportByte(6));

        s.of("promise 46", "For each machine, by numbers, it contains", "These parts are separated by semicolons.");
        s.is(CallChecks.reportOf(Fleets.loaded(Fleets.HEAD + ";machine 0 0")), "0:");
        s.is(CallChecks.reportOf(Fleets.loaded(Fleets.HEAD + ";machine 0 0;machine 0 0")), "0:;1:");
        s.is(CallChecks.reportOf(Fleets.loaded(Fleets.HEAD + ";machine 9 9;slot 0 9 9 0;machine 0 0;machine 1 1"
                + ";slot 0 99 1 0;slot 0 10 10 0;slot 0 1 0 0;machine 5 5;slot 0 2 1 0")),
                "0:9/9;1:;2:1/99,10/10,0/1;3:1/2");
        s.of("promise 46", "Numbers have no leading zeros.");
        s.is(CallChecks.reportOf(Fleets.loaded(Fleets.HEAD + ";machine 0 0;slot 0 00009 00000 0;slot 0 00010 00009 0"
                + ";slot 0 00099 00010 0")), "0:0/9,9/10,10/99");
        s.of("promise 46", "Returns the number of bytes of the text.");
        s.is(Fleets.loaded(Fleets.HEAD + ";machine 0 0").report(), 2);
        s.is(Fleets.loaded(Fleets.HEAD + (";machine 0 0" + ";slot 0 99 99 0".repeat(5)).repeat(8)).report(),
                8 * (2 + 5 * 5 + 4) + 7);

        s.of("promise 47", "Returns a byte of the text that report wrote last.", "Returns the byte.",
                "- `i`: index of the byte, from 0");
        VendingRoutes y = Fleets.loaded(Fleets.TWO);
        int length = y.report();
        String text = "0:4/10,10/10;1:20/20";
        for (int i = 0; i < length; i++) {
            s.is(y.reportByte(i), (int) text.charAt(i));
        }
        y.advance(1);
        y.undo();
        s.is(y.reportByte(19), (int) '0');
        s.of("promise 47",
                "Throws `IndexOutOfBoundsException` if there is no such byte (always, before the first report)");
        for (int i : new int[] {-1, 20, 21, MAX, MIN}) {
            s.refuses(BUSY, INDEX, z -> z.reportByte(i));
        }
        for (int i : new int[] {-1, 0, 1, MAX, MIN}) {
            s.refuses(CallChecks.FRESH, INDEX, z -> z.reportByte(i));
            s.refuses(CallChecks.REFUSED, INDEX, z -> z.reportByte(i));
            s.refuses(CallChecks.DAY_2000, INDEX, z -> z.reportByte(i));
        }
        VendingRoutes none = new VendingRoutes();
        s.fails(STATE, none::report);
        s.fails(INDEX, () -> none.reportByte(0));
    }

    // ---- promises 48 to 54

    private void numbersOfDays() {
        List<BiFunction<VendingRoutes, Integer, Object>> calls = List.of(VendingRoutes::lostIn, VendingRoutes::visitsIn,
                VendingRoutes::firstLoss, VendingRoutes::bestLevel, VendingRoutes::bestForce,
                (x, n) -> x.mixGain(0, 0, 1, 5, n), VendingRoutes::advance);
        for (int i = 0; i < calls.size(); i++) {
            BiFunction<VendingRoutes, Integer, Object> call = calls.get(i);
            String promise = "promise " + (48 + i);
            boolean isCompared = i >= 3 && i <= 5;
            int most = isCompared ? 60 : 100;
            s.of(promise, i == 2 ? "- `n`: the greatest number of days to simulate, 1 to 100"
                    : isCompared ? "- `n`: 1 to 60" : "- `n`: 1 to 100");
            s.is(call.apply(BUSY.get(), 1) != null, true);
            s.is(call.apply(BUSY.get(), most) != null, true);
            s.of(promise, i == 5 ? "Throws `IllegalArgumentException` if rate or n is out of range"
                    : "Throws `IllegalArgumentException` if n is out of range, or the day would be greater than 2000");
            for (int n : new int[] {0, -1, most + 1, 1000, MAX, MAX - 3, MIN}) {
                s.refuses(BUSY, ARGUMENT, x -> call.apply(x, n));
            }
            s.is(call.apply((isCompared ? DAY_1940 : DAY_1900).get(), most) != null, true);
            s.refuses(isCompared ? DAY_1941 : DAY_1901, ARGUMENT, x -> call.apply(x, most));
            s.is(call.apply((isCompared ? DAY_1941 : DAY_1901).get(), most - 1) != null, true);
            s.is(call.apply(CallChecks.DAY_1999.get(), 1) != null, true);
            s.refuses(CallChecks.DAY_1999, ARGUMENT, x -> call.apply(x, 2));
            for (int n : new int[] {1, 2, most, MAX - 1999, MAX}) {
                s.refuses(CallChecks.DAY_2000, ARGUMENT, x -> call.apply(x, n));
            }
        }
        s.of("promise 53", "Throws `IllegalArgumentException` if rate or n is out of range");
        for (int rate : new int[] {-1, 2001, MAX, MIN}) {
            s.refuses(BUSY, ARGUMENT, x -> x.mixGain(0, 0, 1, rate, 5));
        }
    }

    private void whatIf() {
        s.of("promise 48", "Returns how many units could not be sold in the next n days.",
                "Returns the number of units.");
        // At 250 there are 3 units for 2, 3, 2, 3 and 2: on the days 2 to 5 there lack 2, 2, 3 and 2.
        VendingRoutes x = Fleets.loaded(Fleets.FAR);
        int[] lost = {0, 2, 4, 7, 9};
        for (int n = 1; n <= 5; n++) {
            s.is(x.lostIn(n), lost[n - 1]);
        }
        x.advance(2);
        s.is(x.lostIn(1) + " " + x.lostIn(3), "2 7");
        s.is(daily().lostIn(100), 100 - 9);

        s.of("promise 49", "Returns the number of visits in the next n days.", "Returns the number of visits.");
        s.is(Fleets.loaded(Fleets.FAR).visitsIn(100), 0);
        VendingRoutes visits = Fleets.loaded(Fleets.HEAD + ";machine 0 0".repeat(8)
                + ";rule weekday = 2 or weekday = 3");
        // Of the days 1 to 100, 15 are second ones of a week and 14 are third ones.
        s.is(visits.visitsIn(1) + " " + visits.visitsIn(2) + " " + visits.visitsIn(3) + " " + visits.visitsIn(100),
                "0 8 16 " + 8 * 29);
        visits.advance(2);
        s.is(visits.visitsIn(1) + " " + visits.visitsIn(6), "8 8");
        s.is(visits.visitsIn(7), 16);

        s.of("promise 50", "Returns after how many more days a unit could not be sold for the first time.",
                "Returns the number of days, 1 to n; NONE if it does not happen in these days.");
        VendingRoutes y = Fleets.loaded(Fleets.FAR);
        s.is(y.firstLoss(1) + " " + y.firstLoss(2) + " " + y.firstLoss(3) + " " + y.firstLoss(100), "-1 2 2 2");
        y.advance(1);
        s.is(y.firstLoss(1) + " " + y.firstLoss(100), "1 1");
        // What was lost before does not count.
        y.advance(5);
        y.setShift(999);
        y.setLevel(100);
        s.is(y.firstLoss(1) + " " + y.firstLoss(100), "-1 -1");
        s.is(Fleets.loaded(Fleets.HEAD + ";machine 0 0").firstLoss(100), NONE);
        VendingRoutes slow = Fleets.loaded(Fleets.head(1, 0, 0, 0, 0, 1) + ";product 1 1 0;machine 9 9;slot 0 1 0 1");
        s.is(slow.firstLoss(99) + " " + slow.firstLoss(100), "-1 100");
        for (Supplier<VendingRoutes> maker : List.of(BUSY, SIX, CallChecks.LOSING)) {
            for (int n : new int[] {1, 2, 17, 100}) {
                s.is(maker.get().firstLoss(n), ByFace.firstLoss(maker, n));
                s.is(maker.get().visitsIn(n), ByFace.visits(maker, n));
                s.is(maker.get().lostIn(n), maker.get().advance(n));
            }
        }
    }

    private void bestLevel() {
        s.of("promise 51", "Returns the LEVEL of 0, 10, 20 and so on to 100", "Returns the level.");
        // 20 units are demanded on day 1, so that there is a loss if fewer than 20 are there and no visit is made:
        // it is made if the stock times 100 is at most 20 times LEVEL. At 20 units no visit is needed.
        int[][] due = {{0, 0}, {1, 10}, {2, 10}, {3, 20}, {4, 20}, {10, 50}, {11, 60}, {18, 90}, {19, 100}, {20, 0}};
        for (int[] stockAndLevel : due) {
            VendingRoutes x = Fleets.loaded(Fleets.head(9, 20, 0, 0, 0, 1) + ";product 1 1 1;machine 0 0;slot 0 20 "
                    + stockAndLevel[0] + " 2000");
            s.is(x.bestLevel(1), stockAndLevel[1]);
            x.setLevel(77);
            s.is(x.bestLevel(1), stockAndLevel[1]);
            s.is(x.setLevel(77), 77);
        }
        // Nothing differs: the smallest one.
        s.is(Fleets.loaded(Fleets.HEAD + ";machine 0 0").bestLevel(60), 0);
        s.is(Fleets.loaded(Fleets.FAR).bestLevel(60), 0);
        // Without a PENALTY the fewest visits decide: with 20 there is one on day 3 only; with 0 and 10 there are two,
        // on the days 4 and 5, and with 30 on the days 3 and 5.
        Supplier<VendingRoutes> visits = () -> Fleets.loaded(Fleets.head(9, 6, 0, 0, 0, 1)
                + ";product 1 1 0;machine 0 0;slot 0 5 3 100;slot 0 4 3 100");
        s.is(visits.get().bestLevel(5), 20);
        // Fewer visits do not make good for a loss: with 30 there are 1, 2 and 3 visits in 3, 4 and 5 days, where there
        // are 2, 3 and 4 with 0, but a unit is lost on day 5.
        Supplier<VendingRoutes> loss = () -> Fleets.loaded(Fleets.head(12, 3, 0, 0, 0, 1)
                + ";product 1 1 1;machine 5 0;slot 0 6 6 200;slot 0 4 1 100");
        s.is(loss.get().bestLevel(3) + " " + loss.get().bestLevel(4) + " " + loss.get().bestLevel(5), "30 30 0");
        for (Supplier<VendingRoutes> maker : List.of(BUSY, SIX, CallChecks.LOSING, visits, loss)) {
            for (int n : new int[] {1, 2, 7, 60}) {
                s.is(maker.get().bestLevel(n), ByFace.bestLevel(maker, n));
            }
        }
    }

    private void bestForce() {
        s.of("promise 52", "Finds the machine that is to be forced now (see force)",
                "Returns the number of the machine, of several the smallest one; NONE");
        String head = Fleets.head(9, 99, 0, 0, 0, 1) + ";product 1 1 1;product 1 1 3;product 1 1 0";
        // 9 units are demanded of each slot; the machines lack 1 at 1, 2 at 1, 1 at 3, 3 at 1, and 5 at 0.
        VendingRoutes x = Fleets.loaded(head + ";machine 0 0;slot 0 9 8 900;machine 0 0;slot 0 9 7 900;machine 0 0"
                + ";slot 1 9 8 900;machine 0 0;slot 0 9 6 900;machine 0 0;slot 2 9 4 900");
        int[] due = {2, 3, 1, 0, NONE};
        for (int best : due) {
            s.is(x.bestForce(1), best);
            if (best != NONE) {
                x.force(best);
            }
        }
        s.is(x.lostIn(1) + " " + x.visitsOf(0), "5 0");
        // There is time for one of them: machine 0, which is due, loses 9 or 2 without its visit.
        String apart = Fleets.head(20, 99, 0, 0, 0, 1)
                + ";product 1 1 1;machine 10 0;slot 0 9 0 #;machine 0 10;slot 0 9 7 900";
        s.is(Fleets.loaded(apart.replace("#", "900")).bestForce(1), NONE);
        s.is(Fleets.loaded(apart.replace("#", "200")).bestForce(1), NONE);
        s.is(Fleets.loaded(apart.replace("#", "100")).bestForce(1), 1);
        s.is(Fleets.loaded(Fleets.FAR).bestForce(60), NONE);
        s.is(Fleets.loaded(Fleets.HEAD + ";machine 0 0").bestForce(60), NONE);
        // Machine m of eight lacks 1 + m units in each of its five slots, and a visit brings 6.
        s.is(Fleets.loaded(CallChecks.fullText()).bestForce(1), 5);
        // It is forced for the first day only: the loss is on day 2, and day 1 fills for it.
        VendingRoutes later = Fleets.loaded(head + ";machine 0 0;slot 0 99 99 0;machine 0 0;slot 0 40 30 2000");
        s.is(later.bestForce(1) + " " + later.bestForce(2), "-1 1");
        for (Supplier<VendingRoutes> maker : List.of(BUSY, SIX, CallChecks.LOSING)) {
            for (int n : new int[] {1, 2, 7, 60}) {
                s.is(maker.get().bestForce(n), ByFace.bestForce(maker, n));
            }
        }
    }

    private void mixGain() {
        String text = Fleets.head(9, 9, 0, 0, 0, 1) + ";product 9 2 5;product 30 11 6;machine 0 0;slot 0 9 7 100"
                + ";machine 9 9;slot 0 9 9 100";
        Supplier<VendingRoutes> maker = () -> Fleets.loaded(text);
        s.of("promise 53", "Returns by how much profit() would be greater after the next n days",
                "Returns the profit with the mix change minus the profit without it.");
        // With it: 7 units go back, 9 are filled, 9 are sold, and one is lost. Without it one is sold.
        s.asks(maker, 7L * 2 - 9 * 11 + 9 * 30 - 6 - 9, x -> x.mixGain(0, 0, 1, 1000, 1));
        s.asks(maker, 7L * 2 - 9 * 2, x -> x.mixGain(0, 0, 0, 100, 1));
        // Out of reach, it never comes.
        s.asks(maker, 0L, x -> x.mixGain(1, 0, 1, 1000, 60));
        VendingRoutes pending = Fleets.loaded(text);
        pending.changeMix(0, 0, 1, 1000);
        s.is(pending.mixGain(0, 0, 1, 1000, 9), 0L);
        s.is(pending.mixGain(0, 0, 0, 100, 1), 7L * 2 - 9 * 2 + 9 - (7L * 2 - 9 * 11 + 9 * 30 - 6));
        for (int n : new int[] {1, 2, 13, 60}) {
            s.is(BUSY.get().mixGain(0, 1, 1, 900, n), ByFace.mixGain(BUSY, 0, 1, 1, 900, n));
            s.is(SIX.get().mixGain(1, 0, 1, 5, n), ByFace.mixGain(SIX, 1, 0, 1, 5, n));
        }
        s.of("promise 53", "- `machine`: number of the machine", "- `slot`: number of the slot",
                "- `product`: number of the product");
        s.is(BUSY.get().mixGain(0, 0, 0, 5, 9), ByFace.mixGain(BUSY, 0, 0, 0, 5, 9));
        s.is(BUSY.get().mixGain(1, 0, 1, 5, 9), ByFace.mixGain(BUSY, 1, 0, 1, 5, 9));
        s.of("promise 53", "- `rate`: the RATE then, 0 to 2000");
        s.is(maker.get().mixGain(0, 0, 1, 0, 1), 7L * 2 - 9 * 11 - 9);
        s.is(maker.get().mixGain(0, 0, 1, 2000, 1), 7L * 2 - 9 * 11 + 9 * 30 - 11 * 6 - 9);
        s.of("promise 53", "Throws `IndexOutOfBoundsException` if there is no such machine, slot or product");
        noSuchMix((x, m, slot, product) -> x.mixGain(m, slot, product, 5, 5));
    }

    private interface MixCall {
        Object of(VendingRoutes x, int machine, int slot, int product);
    }

    private void noSuchMix(MixCall call) {
        int[][] wrongs = {{2, 0, 0}, {-1, 0, 0}, {MAX, 0, 0}, {MIN, 0, 0}, {0, 2, 0}, {0, -1, 0}, {0, MAX, 0},
            {0, MIN, 0}, {1, 1, 0}, {0, 0, 2}, {0, 0, -1}, {0, 0, 6}, {0, 0, MAX}, {0, 0, MIN}};
        for (int[] w : wrongs) {
            s.refuses(BUSY, INDEX, x -> call.of(x, w[0], w[1], w[2]));
        }
        VendingRoutes bare = Fleets.loaded(Fleets.HEAD + ";machine 0 0");
        s.fails(INDEX, () -> call.of(bare, 0, 0, 0));
        VendingRoutes full = Fleets.loaded(Fleets.head(9, 9, 0, 0, 0, 1) + ";product 1 1 1".repeat(6)
                + ";machine 0 0".repeat(8) + ";slot 0 9 9 0".repeat(5));
        s.is(call.of(full, 7, 4, 5) != null, true);
        s.fails(INDEX, () -> call.of(full, 8, 4, 5));
        s.fails(INDEX, () -> call.of(full, 7, 5, 5));
        s.fails(INDEX, () -> call.of(full, 7, 4, 6));
    }

    private void advance() {
        s.of("promise 54", "---- changes (each can be undone, the latest one first)");
        for (Function<VendingRoutes, Object> change : List.<Function<VendingRoutes, Object>>of(x -> x.advance(9),
                x -> x.force(0), x -> x.changeMix(1, 0, 1, 9), x -> x.setLevel(9), x -> x.setShift(9),
                x -> x.setGap(0, 9, 9), x -> x.deposit(9))) {
            VendingRoutes x = BUSY.get();
            change.apply(x);
            s.is(x.undoable(), 6);
            s.is(x.undo(), 5);
            s.is(Snapshot.of(x), Snapshot.of(BUSY.get()));
        }
        s.of("promise 54", "Simulates n days.");
        for (int n : new int[] {1, 2, 33, 100}) {
            VendingRoutes atOnce = BUSY.get();
            atOnce.advance(n);
            s.is(atOnce.day(), 4 + n);
            atOnce.save(1);
            atOnce.restore(1);
            VendingRoutes oneByOne = BUSY.get();
            for (int i = 0; i < n; i++) {
                oneByOne.advance(1);
            }
            oneByOne.save(1);
            oneByOne.restore(1);
            s.is(Snapshot.of(atOnce), Snapshot.of(oneByOne));
        }
        s.of("promise 54", "This is one change.");
        VendingRoutes one = BUSY.get();
        one.advance(100);
        s.is(one.undoable() + " " + one.day(), "6 104");
        s.is(one.undo() + " " + one.day(), "5 4");
        s.of("promise 54", "Returns the number of units that could not be sold in them.");
        // 4 units on the days 1 to 3 of FAR, and 5 on the days 4 and 5; none of a machine that is filled each day.
        VendingRoutes lost = Fleets.loaded(Fleets.FAR);
        s.is(lost.advance(3) + " " + lost.advance(2) + " " + lost.lostOf(0, 0), "4 5 9");
        s.is(Fleets.loaded(Fleets.HEAD + ";machine 0 0;slot 0 9 9 100;rule days > 0").advance(100), 0);
    }

    private void force() {
        s.of("promise 55", "Forces a machine into the route of the next day if possible (section 4).");
        VendingRoutes x = Fleets.loaded(Fleets.head(20, 0, 1, 0, 0, 1) + ";machine 9 0;machine 9 9;machine 10 0"
                + ";rule days = 1 and visits > 9");
        s.is(x.routeLength(), 0);
        x.force(0);
        s.is(x.routeLength() + " " + x.routeAt(0) + " " + x.routeMinutes(), "1 0 19");
        x.force(1);
        x.force(2);
        s.is(x.routeLength(), 1);
        x.advance(1);
        s.is(x.visitsOf(0) + " " + x.visitsOf(1) + " " + x.visitsOf(2), "1 0 0");
        s.is(x.routeLength(), 0);
        x.force(2);
        s.is(x.routeLength(), 0);
        x.setShift(21);
        s.is(x.routeLength() + " " + x.routeAt(0), "1 2");

        s.of("promise 55", "This is a change, even if it is forced already.");
        VendingRoutes y = Fleets.loaded(Fleets.TWO);
        y.force(1);
        y.force(1);
        s.is(y.undoable(), 2);
        s.is(y.undo() + " " + y.isDue(1), "1 true");
        s.is(y.undo() + " " + y.isDue(1), "0 false");
        s.of("promise 55", "Returns true if it was not forced before.");
        VendingRoutes z = Fleets.loaded(Fleets.TWO);
        s.is(z.force(0) + " " + z.force(0) + " " + z.force(1) + " " + z.force(1), "true false true false");
        z.undo();
        s.is(z.force(1), false);
        z.advance(1);
        s.is(z.force(1) + " " + z.force(0), "true true");
        // It is due anyway, but not forced.
        s.is(Fleets.loaded(Fleets.TWO).isDue(0) + " " + Fleets.loaded(Fleets.TWO).force(0), "true true");
    }

    private void changeMix() {
        s.of("promise 56", "Lets another product come into a slot at the next visit (section 5)");
        VendingRoutes x = Fleets.loaded(Fleets.TWO);
        x.changeMix(1, 0, 1, 700);
        s.is(x.productOf(1, 0) + " " + x.rateOf(1, 0) + " " + x.stockOf(1, 0) + " " + x.isDue(1), "0 3.0 20 true");
        x.setShift(1);
        x.advance(1);
        s.is(x.productOf(1, 0) + " " + x.pendingOf(1, 0) + " " + x.soldOf(1, 0), "0 1 3");
        x.setShift(99);
        x.changeMix(1, 0, 1, 500);
        x.advance(1);
        s.is(x.productOf(1, 0) + " " + x.pendingOf(1, 0) + " " + x.rateOf(1, 0), "1 -1 5.0");
        s.is(x.returnedOf(1, 0) + " " + x.stockOf(1, 0) + " " + x.soldOf(1, 0), "17 15 8");

        s.of("promise 56", "This is a change.");
        VendingRoutes c = Fleets.loaded(Fleets.TWO);
        c.changeMix(0, 0, 0, 200);
        c.changeMix(0, 0, 0, 200);
        s.is(c.undoable() + " " + c.undo() + " " + c.pendingOf(0, 0) + " " + c.undo() + " " + c.pendingOf(0, 0),
                "2 1 0 0 -1");
        s.of("promise 56", "- `machine`: number of the machine", "- `slot`: number of the slot");
        VendingRoutes slots = Fleets.loaded(Fleets.TWO);
        slots.changeMix(0, 1, 0, 0);
        s.is(slots.pendingOf(0, 0) + " " + slots.pendingOf(0, 1) + " " + slots.pendingOf(1, 0), "-1 0 -1");
        s.of("promise 56", "- `product`: number of the product, possibly the present one");
        slots.changeMix(0, 0, 0, 0);
        slots.advance(1);
        s.is(slots.productOf(0, 0) + " " + slots.returnedOf(0, 0) + " " + slots.filledOf(0, 0), "0 4 10");
        s.of("promise 56", "- `rate`: the RATE then, 0 to 2000");
        for (int rate : new int[] {0, 2000}) {
            VendingRoutes y = Fleets.loaded(Fleets.TWO);
            y.changeMix(1, 0, 0, rate);
            y.advance(1);
            s.is(y.rateOf(1, 0) + " " + y.soldOf(1, 0), rate / 100f + " " + rate / 100);
        }
        s.of("promise 56", "Returns the product of the mix change that was pending before; NONE if there was none.");
        VendingRoutes p = Fleets.loaded(Fleets.TWO);
        s.is(p.changeMix(1, 0, 1, 0) + " " + p.changeMix(1, 0, 0, 0) + " " + p.changeMix(1, 0, 0, 5), "-1 1 0");
        s.is(p.changeMix(0, 0, 1, 0), NONE);
        p.undo();
        s.is(p.changeMix(0, 0, 0, 0), NONE);
        p.advance(1);
        s.is(p.changeMix(0, 0, 0, 0) + " " + p.changeMix(1, 0, 1, 0), "-1 -1");
        s.of("promise 56", "Throws `IndexOutOfBoundsException` if there is no such machine, slot or product");
        noSuchMix((y, m, slot, product) -> y.changeMix(m, slot, product, 5));
        s.of("promise 56", "Throws `IllegalArgumentException` if rate is out of range");
        for (int rate : new int[] {-1, 2001, 9999, MAX, MIN}) {
            s.refuses(BUSY, ARGUMENT, y -> y.changeMix(0, 0, 1, rate));
            s.refuses(SIX, ARGUMENT, y -> y.changeMix(0, 1, 0, rate));
        }
    }

    // ---- promises 57 to 60

    private void settings() {
        s.of("promise 57", "Sets LEVEL.", "- `level`: 0 to 100", "Returns the previous LEVEL.");
        VendingRoutes x = Fleets.loaded(Fleets.TWO);
        s.is(x.setLevel(0) + " " + x.setLevel(100) + " " + x.setLevel(100) + " " + x.setLevel(39), "50 0 100 100");
        s.is(x.isDue(0), false);
        s.is(x.setLevel(40) + " " + x.isDue(0), "39 true");
        s.of("promise 57", "This is a change.");
        VendingRoutes same = Fleets.loaded(Fleets.TWO);
        same.setLevel(50);
        same.setLevel(51);
        s.is(same.undoable() + " " + same.undo() + " " + same.setLevel(0) + " " + same.undoable(), "2 1 50 2");
        s.of("promise 57", "Throws `IllegalArgumentException` if level is out of range");
        for (int level : new int[] {-1, 101, MAX, MIN}) {
            s.refuses(BUSY, ARGUMENT, y -> y.setLevel(level));
        }

        s.of("promise 58", "Sets SHIFT.", "- `shift`: 1 to 999", "Returns the previous SHIFT.");
        VendingRoutes z = Fleets.loaded(Fleets.TWO);
        s.is(z.setShift(1) + " " + z.setShift(999) + " " + z.setShift(999) + " " + z.setShift(18), "100 1 999 999");
        s.is(z.routeLength(), 0);
        s.is(z.setShift(19) + " " + z.routeLength(), "18 1");
        s.of("promise 58", "This is a change.");
        VendingRoutes shift = Fleets.loaded(Fleets.TWO);
        shift.setShift(100);
        shift.setShift(101);
        s.is(shift.undoable() + " " + shift.undo() + " " + shift.setShift(5) + " " + shift.undoable(), "2 1 100 2");
        s.of("promise 58", "Throws `IllegalArgumentException` if shift is out of range");
        for (int wrong : new int[] {0, -1, 1000, MAX, MIN}) {
            s.refuses(BUSY, ARGUMENT, y -> y.setShift(wrong));
        }

        s.of("promise 60", "The driver deposits an amount.");
        VendingRoutes d = daily();
        d.advance(2);
        d.deposit(9);
        s.is(d.deposited() + " " + event(d, 2), "9 2 2 9 14");
        s.of("promise 60", "The account is 0 afterwards, and what was missing");
        s.is(d.account() + " " + d.shortage(), "0 5");
        d.deposit(9);
        s.is(d.account() + " " + d.shortage() + " " + d.deposited(), "0 -4 18");
        s.of("promise 60", "This is a change.");
        s.is(d.undoable() + " " + d.undo() + " " + d.undo(), "3 2 1");
        s.is(d.account() + " " + d.deposited() + " " + d.shortage() + " " + d.events(), "14 0 0 2");
        s.of("promise 60", "- `amount`: 0 to 1000000000", "Returns what was missing, negative if it was too much.");
        s.is(d.deposit(0) + " " + d.deposit(0), "14 0");
        s.is(d.deposit(1000000000), -1000000000);
        d.advance(1);
        s.is(d.deposit(14) + " " + d.deposit(1), "0 -1");
        d.advance(2);
        s.is(d.deposit(27) + " " + d.deposited() + " " + d.shortage(), "1 1000000042 -999999986");
        s.of("promise 60", "Throws `IllegalArgumentException` if amount is out of range");
        for (int amount : new int[] {-1, 1000000001, MAX, MIN}) {
            s.refuses(BUSY, ARGUMENT, y -> y.deposit(amount));
        }
    }

    private void gaps() {
        s.of("promise 59", "Sets the gap of a machine, in place of the previous one.",
                "- `machine`: number of the machine");
        VendingRoutes x = Fleets.loaded(Fleets.TWO);
        x.setGap(1, 5, 6);
        boolean[] due = {true, true, true, true, false, false, true};
        for (int day = 1; day <= due.length; day++) {
            s.is(x.reports(1, 0, day), due[day - 1]);
            s.is(x.reports(0, 0, day), true);
        }
        s.of("promise 59", "This is a change.");
        VendingRoutes same = Fleets.loaded(Fleets.TWO);
        same.setGap(1, 2, 3);
        same.setGap(1, 1, 3);
        s.is(same.undoable() + " " + same.reports(1, 0, 1) + " " + same.undo() + " " + same.reports(1, 0, 1),
                "2 false 1 true");
        s.of("promise 59", "- `from`: 0 to 9999", "- `until`: 0 to 9999; if it is less than from there is no gap");
        int[][] gaps = {{0, 0, 1, 1}, {0, 1, 0, 1}, {1, 0, 1, 1}, {1, 1, 0, 1}, {0, 9999, 0, 0}, {9999, 0, 1, 1},
            {9999, 9999, 1, 1}, {2000, 2000, 1, 0}, {2000, 1999, 1, 1}, {1, 1999, 0, 1}, {2, 1999, 1, 1}};
        for (int[] gap : gaps) {
            VendingRoutes y = Fleets.loaded(Fleets.TWO);
            y.setGap(0, gap[0], gap[1]);
            s.is(gap[0] + " " + gap[1] + ": " + y.reports(0, 0, 1) + " " + y.reports(0, 0, 2000),
                    gap[0] + " " + gap[1] + ": " + (gap[2] == 1) + " " + (gap[3] == 1));
        }
        s.of("promise 59", "Returns true if the gap is another one than before (both numbers are compared).");
        VendingRoutes z = Fleets.loaded(Fleets.TWO);
        s.is(z.setGap(0, 1, 0) + " " + z.setGap(1, 2, 3) + " " + z.setGap(1, 2, 3), "false false false");
        s.is(z.setGap(1, 2, 4) + " " + z.setGap(1, 1, 4) + " " + z.setGap(1, 4, 1) + " " + z.setGap(1, 4, 1),
                "true true true false");
        // Two gaps without a day are two all the same.
        s.is(z.setGap(1, 4, 0) + " " + z.setGap(1, 5, 0) + " " + z.setGap(0, 1, 0), "true true false");
        z.undo();
        z.undo();
        s.is(z.setGap(1, 4, 0), false);
        s.of("promise 59", "Throws `IndexOutOfBoundsException` if there is no such machine");
        for (int m : new int[] {-1, 2, 8, MAX, MIN}) {
            s.refuses(BUSY, INDEX, y -> y.setGap(m, 0, 0));
        }
        s.of("promise 59", "Throws `IllegalArgumentException` if from or until is out of range");
        for (int wrong : new int[] {-1, 10000, MAX, MIN}) {
            s.refuses(BUSY, ARGUMENT, y -> y.setGap(0, wrong, 5));
            s.refuses(BUSY, ARGUMENT, y -> y.setGap(0, 5, wrong));
            s.refuses(BUSY, ARGUMENT, y -> y.setGap(1, wrong, wrong));
        }
    }

    // ---- promises 61 to 64

    private void undo() {
        s.of("promise 61", "Undoes the latest change that was not undone yet.");
        VendingRoutes x = Fleets.loaded(Fleets.TWO);
        x.setLevel(11);
        x.setLevel(12);
        x.undo();
        s.is(x.setLevel(13), 11);
        x.undo();
        x.undo();
        s.is(x.setLevel(14), 50);
        s.of("promise 61", "Returns the number of changes that can still be undone.");
        VendingRoutes y = Fleets.loaded(Fleets.TWO);
        for (int i = 1; i <= 9; i++) {
            y.force(0);
        }
        for (int left = 5; left >= 0; left--) {
            s.is(y.undo(), left);
        }
        s.of("promise 61", "Throws `IllegalStateException` if there is none");
        s.fails(STATE, y::undo);
        s.refuses(CallChecks.FRESH, STATE, z -> z.undo());
        s.refuses(CallChecks.REFUSED, STATE, z -> z.undo());
        s.refuses(() -> Fleets.loaded(Fleets.TWO), STATE, z -> z.undo());
        Supplier<VendingRoutes> restored = () -> {
            VendingRoutes z = BUSY.get();
            z.restore(0);
            return z;
        };
        s.refuses(restored, STATE, z -> z.undo());
        Supplier<VendingRoutes> allUndone = () -> {
            VendingRoutes z = SIX.get();
            for (int i = 0; i < 6; i++) {
                z.undo();
            }
            return z;
        };
        s.refuses(allUndone, STATE, z -> z.undo());

        s.of("promise 62", "Returns the number of changes that can be undone.", "Returns 0 to 6.");
        s.is(without(false).undoable() + " " + without(true).undoable(), "0 0");
        VendingRoutes n = Fleets.loaded(Fleets.TWO);
        for (int made = 0; made <= 9; made++) {
            s.is(n.undoable(), Math.min(made, 6));
            n.setShift(5 + made);
        }
        n.undo();
        s.is(n.undoable(), 5);
        n.save(0);
        n.lostIn(3);
        s.is(n.undoable(), 5);
        n.restore(0);
        s.is(n.undoable(), 0);
    }

    private void places() {
        s.of("promise 63", "Saves the state in one of two places, in place of what was saved there.",
                "- `slot`: 0 or 1, the place", "Returns the day of the saved state.");
        VendingRoutes x = Fleets.loaded(Fleets.TWO);
        s.is(x.save(0), 0);
        x.advance(3);
        s.is(x.save(1), 3);
        x.advance(4);
        s.is(x.restore(0) + " " + x.day() + " " + x.restore(1) + " " + x.day(), "0 0 3 3");
        x.advance(5);
        s.is(x.save(0), 8);
        x.advance(1);
        s.is(x.restore(0) + " " + x.restore(1) + " " + x.save(1) + " " + x.restore(0), "8 3 3 8");
        s.is(CallChecks.DAY_2000.get().save(1), 2000);
        s.of("promise 63", "Throws `IndexOutOfBoundsException` if there is no such place");
        for (int place : new int[] {-1, 2, 3, MAX, MIN}) {
            s.refuses(BUSY, INDEX, y -> y.save(place));
        }

        s.of("promise 64", "Restores what was saved in a place; it stays saved.", "- `slot`: 0 or 1, the place");
        Supplier<VendingRoutes> savedOnly = () -> {
            VendingRoutes y = BUSY.get();
            y.save(1);
            y.restore(1);
            return y;
        };
        VendingRoutes y = BUSY.get();
        y.save(1);
        y.advance(50);
        y.restore(1);
        y.setLevel(1);
        y.deposit(1);
        y.restore(1);
        s.is(Snapshot.of(y), Snapshot.of(savedOnly.get()));
        s.of("promise 64", "Nothing can be undone afterwards.");
        VendingRoutes z = SIX.get();
        z.restore(0);
        s.is(z.undoable(), 0);
        s.fails(STATE, z::undo);
        z.force(0);
        s.is(z.undo(), 0);
        s.of("promise 64", "Returns the day of the restored state.");
        s.is(SIX.get().restore(0), 4);
        VendingRoutes last = CallChecks.DAY_2000.get();
        last.save(0);
        last.undo();
        s.is(last.day() + " " + last.restore(0), "1900 2000");
        s.of("promise 64", "Throws `IndexOutOfBoundsException` if there is no such place");
        for (int place : new int[] {-1, 2, 3, MAX, MIN}) {
            s.refuses(BUSY, INDEX, w -> w.restore(place));
            s.refuses(CallChecks.FRESH, INDEX, w -> w.restore(place));
            s.refuses(CallChecks.REFUSED, INDEX, w -> w.restore(place));
        }
        s.of("promise 64", "Throws `IllegalStateException` if nothing is saved there");
        s.refuses(BUSY, STATE, w -> w.restore(1));
        for (int place = 0; place < 2; place++) {
            int asked = place;
            s.refuses(CallChecks.FRESH, STATE, w -> w.restore(asked));
            s.refuses(CallChecks.REFUSED, STATE, w -> w.restore(asked));
            s.refuses(CallChecks.DAY_2000, STATE, w -> w.restore(asked));
        }
        // A fleet that is loaded has nothing saved, and what was saved of another one is gone.
        VendingRoutes other = Fleets.loaded(Fleets.TWO);
        other.save(0);
        other.save(1);
        Fleets.write(other, Fleets.FAR);
        other.load(Fleets.FAR.length());
        s.fails(STATE, () -> other.restore(0));
        s.fails(STATE, () -> other.restore(1));
    }
}
