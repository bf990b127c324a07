/** The sentences of the sections 1 to 5: what the fleet is and does. */
final class SectionChecks {
    private static final int NONE = VendingRoutes.NONE;

    private final Sentences s;

    SectionChecks(Sentences sentences) {
        s = sentences;
    }

    void all() {
        positionsAndNumbers();
        demand();
        firstEstimates();
        readings();
        reports();
        dueMachines();
        rules();
        risk();
        routeMinutes();
        orderOfDueMachines();
        insertion();
        improvement();
        loads();
        days();
        visits();
        mixChanges();
        fillingAndCash();
        sales();
        evenings();
        events();
    }

    private static VendingRoutes fleet(String head, String lines) {
        return Fleets.loaded(head + lines);
    }

    /** A fleet whose machines no route reaches, but for those at 0 0. */
    private static VendingRoutes left(int alpha, String lines) {
        return fleet(Fleets.head(1, 0, 0, alpha, 0, 1), ";product 10 1 7" + lines);
    }

    private static String route(VendingRoutes x) {
        StringBuilder route = new StringBuilder();
        int length = x.routeLength();
        for (int i = 0; i < length; i++) {
            route.append(x.routeAt(i));
        }
        return route.toString();
    }

    private static String event(VendingRoutes x, int number) {
        return x.event(number, 0) + " " + x.event(number, 1) + " " + x.event(number, 2) + " " + x.event(number, 3);
    }

    private static String text(VendingRoutes x) {
        StringBuilder text = new StringBuilder();
        int length = x.report();
        for (int i = 0; i < length; i++) {
            text.append((char) x.reportByte(i));
        }
        return text.toString();
    }

    // ---- section 1

    private void positionsAndNumbers() {
        s.of("section 1", "A machine and the depot have a position");
        VendingRoutes far = Fleets.loaded(Fleets.HEAD.replace("fleet 0 0", "fleet 99 0")
                + ";machine 0 99;machine 3 9;machine 7 2;machine 3 9;machine 99 0");
        s.is(far.minutesBetween(NONE, 0), 198);
        s.is(far.minutesBetween(0, NONE), 198);
        s.is(far.minutesBetween(1, 2), 11);
        s.is(far.minutesBetween(2, 1), 11);
        s.is(far.minutesBetween(1, 3), 0);
        s.is(far.minutesBetween(NONE, 4), 0);
        s.is(far.minutesBetween(2, 0), 7 + 97);

        s.of("section 1", "A product has a PRICE, a COST and a PENALTY, in cents.");
        String one = ";machine 0 0;slot 0 1 0 200";
        VendingRoutes dear = fleet(Fleets.head(9, 9, 0, 0, 0, 1), ";product 999 998 997" + one);
        dear.advance(1);
        s.is(dear.cashIn(0), 999);
        s.is(dear.lostCost(), 997L);
        s.is(dear.profit(), 999L - 998L - 997L);
        VendingRoutes cheap = fleet(Fleets.head(9, 9, 0, 0, 0, 1), ";product 1 0 0" + one);
        cheap.advance(1);
        s.is(cheap.cashIn(0), 1);
        s.is(cheap.lostCost(), 0L);
        s.is(cheap.profit(), 1L);

        s.of("section 1", "Machines and products are numbered from 0");
        VendingRoutes mixed = fleet(Fleets.head(9, 0, 0, 0, 0, 1), ";product 5 0 0;machine 1 0;slot 0 9 9 100"
                + ";product 7 0 0;machine 2 0;slot 1 9 9 100;product 8 0 0;machine 4 0;slot 2 9 9 100");
        mixed.advance(1);
        for (int i = 0; i < 3; i++) {
            s.is(mixed.minutesBetween(NONE, i), 1 << i);
            s.is(mixed.productOf(i, 0), i);
        }
        s.is(mixed.cashIn(0) + " " + mixed.cashIn(1) + " " + mixed.cashIn(2), "5 7 8");

        s.of("section 1", "The slots of a machine are numbered from 0");
        VendingRoutes slots = fleet(Fleets.head(99, 9999, 0, 0, 100, 1), ";product 5 0 0;product 7 0 0"
                + ";machine 0 0;slot 1 9 8 150 every 2;slot 0 99 99 0;machine 1 1;slot 0 1 0 200");
        s.is(slots.productOf(0, 0) + " " + slots.productOf(0, 1) + " " + slots.productOf(1, 0), "1 0 0");
        s.is(text(slots), "0:8/9,99/99;1:0/1");
        s.is(slots.rateOf(0, 0) + " " + slots.rateOf(0, 1) + " " + slots.rateOf(1, 0), "1.5 0.0 2.0");
        s.is(slots.reports(0, 0, 1) + " " + slots.reports(0, 0, 2) + " " + slots.reports(0, 1, 1), "false true true");
        // All machines are visited each day and there are units enough, but no slot holds more than its CAPACITY.
        slots.advance(3);
        s.is(text(slots), "0:8/9,99/99;1:0/1");
        slots.advance(1);
        s.is(text(slots), "0:7/9,99/99;1:0/1");
        s.is(slots.filledOf(0, 1), 0);
        s.is(slots.filledOf(1, 0), 4);
    }

    private static int demanded(VendingRoutes x) {
        return x.soldOf(0, 0) + x.lostOf(0, 0);
    }

    private void demand() {
        s.of("section 1", "The demand of a slot on day d is");
        // RATE, day, and the demand of the days up to it.
        int[][] sums = {{0, 1, 0}, {0, 100, 0}, {1, 1, 0}, {1, 99, 0}, {1, 100, 1}, {1, 199, 1}, {1, 200, 2},
            {50, 1, 0}, {50, 2, 1}, {50, 3, 1}, {50, 4, 2}, {99, 1, 0}, {99, 2, 1}, {99, 100, 99}, {100, 1, 1},
            {100, 2, 2}, {101, 1, 1}, {101, 99, 99}, {101, 100, 101}, {250, 1, 2}, {250, 2, 5}, {250, 3, 7},
            {250, 4, 10}, {333, 1, 3}, {333, 3, 9}, {333, 4, 13}, {1999, 1, 19}, {1999, 2, 39}, {2000, 1, 20},
            {2000, 100, 2000}};
        for (int[] sum : sums) {
            VendingRoutes x = left(0, ";machine 9 9;slot 0 99 99 " + sum[0]);
            for (int days = sum[1]; days > 0; days -= 100) {
                x.advance(Math.min(days, 100));
            }
            s.is(sum[0] + " until " + sum[1] + ": " + demanded(x), sum[0] + " until " + sum[1] + ": " + sum[2]);
        }
        for (int[] last : new int[][] {{1, 20}, {99, 1980}, {1999, 39980}, {2000, 40000}}) {
            VendingRoutes x = left(0, ";machine 9 9;slot 0 99 99 " + last[0]);
            for (int i = 0; i < 20; i++) {
                x.advance(100);
            }
            s.is(demanded(x), last[1]);
        }
        // The number of the day counts, not how long a slot has had its RATE.
        VendingRoutes x = left(0, ";machine 0 0;slot 0 99 99 0");
        x.advance(1);
        x.changeMix(0, 0, 0, 50);
        x.advance(1);
        s.is(demanded(x), 1);
        x.changeMix(0, 0, 0, 149);
        x.advance(1);
        // 4.47 minus 2.98, each rounded down.
        s.is(demanded(x), 3);
        x.advance(96);
        s.is(demanded(x), 3 + 147 - 4);
        x.changeMix(0, 0, 0, 1);
        x.advance(1);
        s.is(demanded(x), 3 + 147 - 4 + 1);
    }

    // ---- section 2

    private void firstEstimates() {
        s.of("section 2", "For each slot there are an estimated stock and an estimated rate");
        VendingRoutes x = left(50, ";machine 9 9;slot 0 99 99 2000;slot 0 9 0 0;slot 0 9 5 33;slot 0 1 1 1");
        s.is(x.estimateOf(0, 0), 99f);
        s.is(x.estimateOf(0, 1), 0f);
        s.is(x.estimateOf(0, 2), 5f);
        s.is(x.estimateOf(0, 3), 1f);
        s.is(x.rateOf(0, 0), 20f);
        s.is(x.rateOf(0, 1), 0f);
        s.is(x.rateOf(0, 2), 33f / 100f);
        s.is(x.rateOf(0, 3), 1f / 100f);

        s.of("section 2", "All computations with them are float arithmetic");
        VendingRoutes silent = left(15, ";machine 9 9;slot 0 99 99 1 every 30;slot 0 99 99 8 every 30"
                + ";slot 0 99 99 1 every 3");
        silent.advance(3);
        // 98.97 and 98.76 where the steps are not rounded to floats.
        s.is(silent.estimateOf(0, 0), 99f - 0.01f - 0.01f - 0.01f);
        s.is(silent.estimateOf(0, 0), 98.96999f);
        s.is(silent.estimateOf(0, 1), 99f - 0.08f - 0.08f - 0.08f);
        s.is(silent.estimateOf(0, 1), 98.759995f);
        // 0.0085 where doubles are used, or where r * (1 - a) + s / d * a is.
        s.is(silent.rateOf(0, 2), 0.01f + (0f / 3f - 0.01f) * 0.15f);
        s.is(silent.rateOf(0, 2), 0.0084999995f);
    }

    private void readings() {
        s.of("section 2", "When a slot is read, let s be the number of units");
        // At 250: 2, 3, 2 units, and then 3, 2, 3. The second reading counts from the first one on.
        VendingRoutes x = left(100, ";machine 9 9;slot 0 99 99 250 every 3");
        x.advance(3);
        float first = 2.5f + (7f / 3f - 2.5f) * 1f;
        s.is(x.rateOf(0, 0), first);
        x.advance(2);
        s.is(x.rateOf(0, 0), first);
        x.advance(1);
        s.is(x.rateOf(0, 0), first + (8f / 3f - first) * 1f);
        // Since the text was loaded: no unit of an earlier fleet counts, sold or only asked about.
        VendingRoutes next = left(100, ";machine 9 9;slot 0 99 99 900 every 30");
        next.advance(2);
        next.lostIn(5);
        Fleets.write(next, Fleets.head(5, 99, 0, 100, 0, 1) + ";product 9 2 5;machine 9 9;slot 0 99 99 250 every 3");
        next.load(next.buffered());
        next.advance(3);
        s.is(next.rateOf(0, 0), first);
        // Sold out on day 2: that day counts, for it sold on it, and day 3 does not, for it was empty.
        VendingRoutes soldOut = left(50, ";machine 9 9;slot 0 9 3 250 every 3");
        soldOut.advance(3);
        s.is(soldOut.rateOf(0, 0), 2.5f + (3f / 2f - 2.5f) * 0.5f);
        // The stock tells it, not the estimate: on day 3 the estimate is 1 and the slot is empty; in the second case
        // the estimate is 0 on day 4 and there is a unit.
        VendingRoutes fewer = left(100, ";machine 9 9 gap 2 3;slot 0 9 3 150");
        fewer.advance(2);
        s.is(fewer.stockOf(0, 0) + " " + fewer.estimateOf(0, 0), "0 1.0");
        fewer.advance(2);
        s.is(fewer.rateOf(0, 0), 1f + (2f / 1f - 1f) * 1f);
        VendingRoutes more = left(100, ";machine 9 9 gap 3 4;slot 0 9 5 150");
        more.advance(3);
        s.is(more.stockOf(0, 0) + " " + more.estimateOf(0, 0), "1 0.0");
        more.advance(2);
        s.is(more.rateOf(0, 0), 2f + (2f / 2f - 2f) * 1f);
        // A day without a demand counts, if there is a unit.
        VendingRoutes slow = left(50, ";machine 9 9;slot 0 9 9 50");
        slow.advance(1);
        s.is(slow.rateOf(0, 0), 0.5f + (0f / 1f - 0.5f) * 0.5f);
        // A visit reads before this day's sales: at 70, 0 and 1 units on the two days before it.
        VendingRoutes visited = left(50, ";machine 0 0;slot 0 9 9 70 every 30");
        visited.advance(2);
        visited.force(0);
        visited.advance(1);
        s.is(visited.rateOf(0, 0), 0.7f + (1f / 2f - 0.7f) * 0.5f);
        visited.advance(10);
        visited.force(0);
        visited.advance(1);
        float second = 0.7f + (1f / 2f - 0.7f) * 0.5f;
        // Since that visit, the days 3 to 13 sold 8 units, the last one on day 13.
        s.is(visited.soldOf(0, 0), 9);
        s.is(visited.rateOf(0, 0), second + (8f / 11f - second) * 0.5f);

        s.of("section 2", "If d is not 0, the estimated rate r becomes");
        // Read in the evening of day 1, and again in the morning of day 2: no day lies between.
        VendingRoutes twice = left(50, ";machine 0 0;slot 0 9 9 150");
        twice.setGap(0, 2, 2);
        twice.advance(1);
        s.is(twice.rateOf(0, 0), 1.5f + (1f - 1.5f) * 0.5f);
        twice.force(0);
        twice.advance(1);
        s.is(twice.visitsOf(0), 1);
        s.is(twice.rateOf(0, 0), 1.25f);
        twice.advance(1);
        // The days 2 and 3, with 2 and 1 units.
        s.is(twice.rateOf(0, 0), 1.25f + (3f / 2f - 1.25f) * 0.5f);
        VendingRoutes empty = left(50, ";machine 9 9;slot 0 9 0 150");
        empty.advance(9);
        s.is(empty.rateOf(0, 0), 1.5f);
        for (int alpha : new int[] {0, 1, 99, 100}) {
            VendingRoutes smoothed = left(alpha, ";machine 9 9;slot 0 9 9 150");
            smoothed.advance(1);
            s.is(smoothed.rateOf(0, 0), 1.5f + (1f / 1f - 1.5f) * (alpha / 100f));
        }

        s.of("section 2", "In any case the estimated stock becomes the stock.");
        VendingRoutes read = left(0, ";machine 9 9;slot 0 9 9 50 every 2;slot 0 9 9 50 every 30;slot 0 9 0 50 every 2");
        read.advance(1);
        s.is(read.estimateOf(0, 0), 8.5f);
        read.advance(2);
        s.is(read.estimateOf(0, 0), 8f - 0.5f);
        s.is(read.estimateOf(0, 1), 7.5f);
        s.is(read.estimateOf(0, 2), 0f);
        // Nothing is loaded; the visit reads 8 units instead of 7.5, and the evening takes 0.5.
        VendingRoutes visit = left(0, ";machine 0 0;slot 0 9 9 50 every 30");
        visit.advance(3);
        s.is(visit.estimateOf(0, 0), 7.5f);
        visit.force(0);
        visit.advance(1);
        s.is(visit.visitsOf(0) + " " + visit.filledOf(0, 0) + " " + visit.stockOf(0, 0), "1 0 7");
        s.is(visit.estimateOf(0, 0), 7.5f);
    }

    // ---- section 3

    private void reports() {
        s.of("section 3", "A machine is silent on the days FROM to UNTIL");
        VendingRoutes x = left(0, ";machine 9 9 gap 3 5;slot 0 9 9 0;machine 9 9 gap 7 7;slot 0 9 9 0"
                + ";machine 9 9 gap 0 0;slot 0 9 9 0;machine 9 9 gap 0 9999;slot 0 9 9 0"
                + ";machine 9 9 gap 2000 2000;slot 0 9 9 0;machine 9 9 gap 9999 9999;slot 0 9 9 0"
                + ";machine 9 9;slot 0 9 9 0");
        boolean[][] due = {{true, false, true}, {false, false}, {true, true}, {false, false}, {true, false},
            {true, true}, {true, true}};
        int[][] days = {{2, 3, 6}, {7, 7}, {1, 2000}, {1, 2000}, {1999, 2000}, {1, 2000}, {1, 2000}};
        for (int m = 0; m < due.length; m++) {
            for (int i = 0; i < due[m].length; i++) {
                s.is(x.reports(m, 0, days[m][i]), due[m][i]);
            }
        }
        s.is(x.reports(0, 0, 4) + " " + x.reports(0, 0, 5), "false false");
        s.is(x.reports(1, 0, 6) + " " + x.reports(1, 0, 8), "true true");
        // The first machine stays unread on the days 3 to 5, and is read on day 6.
        VendingRoutes half = left(0, ";machine 9 9 gap 3 5;slot 0 9 9 50");
        float[] estimates = {9f, 8f, 7.5f, 7f, 6.5f, 6f};
        for (float estimate : estimates) {
            half.advance(1);
            s.is(half.estimateOf(0, 0), estimate);
        }

        s.of("section 3", "A slot reports in the evening of a day");
        VendingRoutes y = left(0, ";machine 9 9;slot 0 9 9 50;slot 0 9 9 50 every 1;slot 0 9 9 50 every 2"
                + ";slot 0 9 9 50 every 30;slot 0 9 9 50 every 7;machine 9 9 gap 30 60;slot 0 9 9 0 every 30");
        boolean[][] reports = {{true, true, false, false, false}, {true, true, true, false, false},
            {true, true, false, false, true}, {true, true, false, false, false}, {true, true, true, true, false},
            {true, true, true, false, false}, {true, true, true, true, false}, {true, true, true, false, false}};
        int[] when = {1, 2, 7, 29, 30, 32, 60, 2000};
        for (int i = 0; i < when.length; i++) {
            for (int slot = 0; slot < 5; slot++) {
                s.is(y.reports(0, slot, when[i]), reports[i][slot]);
            }
        }
        s.is(y.reports(1, 0, 30) + " " + y.reports(1, 0, 60) + " " + y.reports(1, 0, 90), "false false true");
        y.advance(1);
        s.is(y.estimateOf(0, 0) + " " + y.estimateOf(0, 1) + " " + y.estimateOf(0, 2), "9.0 9.0 8.5");
        y.advance(1);
        s.is(y.estimateOf(0, 2) + " " + y.estimateOf(0, 3), "8.0 8.0");
    }

    // ---- section 4

    private void dueMachines() {
        s.of("section 4", "A machine is due if it is forced");
        String lines = ";product 1 1 1;machine 0 0;slot 0 10 10 0;slot 0 10 4 0;machine 1 0;slot 0 99 99 0;machine 2 0"
                + ";machine 3 0;slot 0 1 1 0;slot 0 9 9 0;slot 0 9 9 0;machine 4 0;slot 0 9 0 0"
                + ";machine 5 0;slot 0 9 1 0";
        VendingRoutes x = fleet(Fleets.head(999, 99, 0, 0, 39, 1), lines);
        s.is(x.isDue(0), false);
        x.setLevel(40);
        s.is(x.isDue(0), true);
        x.setLevel(0);
        s.is(x.isDue(0) + " " + x.isDue(4) + " " + x.isDue(5), "false true false");
        x.setLevel(99);
        s.is(x.isDue(1) + " " + x.isDue(2) + " " + x.isDue(3), "false false false");
        x.setLevel(100);
        s.is(x.isDue(1) + " " + x.isDue(2) + " " + x.isDue(3), "true false true");
        x.setLevel(0);
        x.force(2);
        s.is(x.isDue(2) + " " + x.isDue(1), "true false");
        x.changeMix(3, 2, 0, 0);
        s.is(x.isDue(3) + " " + x.isDue(5), "true false");
        s.is(route(x), "432");
        x.advance(1);
        s.is(x.isDue(2) + " " + x.isDue(3), "false false");
        // The estimate of 2.5 counts, not the stock of 3; 2.5 * 100 is at most 25 * 10.
        VendingRoutes half = left(0, ";machine 9 9;slot 0 10 3 50 every 9");
        half.advance(1);
        half.setLevel(24);
        s.is(half.isDue(0), false);
        half.setLevel(25);
        s.is(half.isDue(0), true);
        // As floats, 0.99 * 100 is 99; the estimate itself is a little more than 0.99.
        VendingRoutes rounded = left(0, ";machine 9 9;slot 0 1 1 1 every 9");
        rounded.advance(1);
        rounded.setLevel(98);
        s.is(rounded.isDue(0), false);
        rounded.setLevel(99);
        s.is(rounded.isDue(0), true);
        VendingRoutes ruled = fleet(Fleets.head(9, 9, 0, 0, 0, 1), ";machine 0 0;rule days < 1;rule days = 2");
        s.is(ruled.isDue(0), false);
        ruled.advance(1);
        s.is(ruled.isDue(0), true);
    }

    private static boolean holds(VendingRoutes x, int rule) {
        return x.isRuleMet(rule, 0);
    }

    private void rules() {
        s.of("section 4", "A rule is a test about a machine and the day of the route");
        VendingRoutes x = fleet(Fleets.head(9, 0, 0, 0, 0, 1), ";machine 0 0;machine 9 9;rule visits = 1"
                + ";rule weekday = 2");
        s.is(x.isRuleMet(0, 0) + " " + x.isRuleMet(0, 1) + " " + x.isRuleMet(1, 0), "false false false");
        x.force(0);
        x.advance(1);
        s.is(x.isRuleMet(0, 0) + " " + x.isRuleMet(0, 1), "true false");
        s.is(x.isRuleMet(1, 0) + " " + x.isRuleMet(1, 1), "true true");

        s.of("section 4", "In a test, days is the number of this day");
        values();
        s.of("section 4", "When a route is planned without a day passing");
        VendingRoutes y = fleet(Fleets.head(9, 0, 0, 0, 0, 1), ";machine 0 0;rule weekday = 0 or weekday = 3");
        int[] lengths = {0, 0, 1, 0, 0, 0, 1, 0};
        for (int day = 0; day < lengths.length; day++) {
            s.is("on day " + day + ": " + y.routeLength(), "on day " + day + ": " + lengths[day]);
            s.is(y.isDue(0), lengths[day] == 1);
            s.is(y.isRuleMet(0, 0), lengths[day] == 1);
            y.advance(1);
            s.is(y.lastVisit(0) == y.day(), lengths[day] == 1);
        }
    }

    private void values() {
        // days, with a visit on day 2 and none before.
        VendingRoutes x = fleet(Fleets.head(9, 0, 0, 0, 0, 1), ";machine 0 0;rule days = 1;rule days = 2;rule days > 2"
                + " and days < 4");
        s.is(holds(x, 0) + " " + holds(x, 1) + " " + holds(x, 2), "true false false");
        VendingRoutes unvisited = fleet(Fleets.head(1, 0, 0, 0, 0, 1), ";machine 9 9;rule days = 1;rule days = 2"
                + ";rule days > 2 and days < 4");
        unvisited.advance(1);
        s.is(holds(unvisited, 0) + " " + holds(unvisited, 1) + " " + holds(unvisited, 2), "false true false");
        unvisited.advance(1);
        s.is(holds(unvisited, 0) + " " + holds(unvisited, 1) + " " + holds(unvisited, 2), "false false true");
        unvisited.setShift(999);
        unvisited.advance(1);
        s.is(unvisited.lastVisit(0), 3);
        s.is(holds(unvisited, 0) + " " + holds(unvisited, 1) + " " + holds(unvisited, 2), "true false false");
        // cash: 99, 198 and 297 cents.
        VendingRoutes cash = fleet(Fleets.head(1, 0, 0, 0, 0, 1), ";product 99 0 0;machine 9 9;slot 0 9 3 100"
                + ";rule cash = 0;rule cash = 1;rule cash = 2");
        s.is(holds(cash, 0) + " " + holds(cash, 1) + " " + holds(cash, 2), "true false false");
        cash.advance(1);
        s.is(holds(cash, 0) + " " + holds(cash, 1) + " " + holds(cash, 2), "true false false");
        cash.advance(1);
        s.is(holds(cash, 0) + " " + holds(cash, 1) + " " + holds(cash, 2), "false true false");
        cash.advance(1);
        s.is(holds(cash, 0) + " " + holds(cash, 1) + " " + holds(cash, 2), "false false true");
        VendingRoutes hundred = fleet(Fleets.head(1, 0, 0, 0, 0, 1), ";product 100 0 0;machine 9 9;slot 0 9 3 100"
                + ";rule cash = 0;rule cash = 1");
        hundred.advance(1);
        s.is(holds(hundred, 0) + " " + holds(hundred, 1), "false true");
        // weekday: the days 6, 7 and 8 are 6, 0 and 1.
        VendingRoutes week = fleet(Fleets.head(1, 0, 0, 0, 0, 1), ";machine 9 9;rule weekday = 6;rule weekday = 0"
                + ";rule weekday = 1;rule weekday > 6");
        s.is(holds(week, 2), true);
        week.advance(5);
        s.is(holds(week, 0) + " " + holds(week, 1) + " " + holds(week, 2), "true false false");
        week.advance(1);
        s.is(holds(week, 0) + " " + holds(week, 1) + " " + holds(week, 2), "false true false");
        week.advance(1);
        s.is(holds(week, 0) + " " + holds(week, 1) + " " + holds(week, 2), "false false true");
        s.is(holds(week, 3), false);
        // visits: 0, then 1, then 2.
        VendingRoutes visits = fleet(Fleets.head(9, 0, 0, 0, 0, 1), ";machine 0 0;rule visits < 1;rule visits = 1"
                + ";rule visits > 1");
        s.is(holds(visits, 0) + " " + holds(visits, 1) + " " + holds(visits, 2), "true false false");
        visits.advance(1);
        s.is(holds(visits, 0) + " " + holds(visits, 1) + " " + holds(visits, 2), "false true false");
        visits.advance(1);
        s.is(holds(visits, 0) + " " + holds(visits, 1) + " " + holds(visits, 2), "false false true");
        // empty: estimates of 0, 1 and 2 at first, then of 0, 1 and 1.25, then of 0, 1 and 0.5.
        VendingRoutes empty = left(0, ";machine 9 9;slot 0 9 0 0;slot 0 9 1 0;slot 0 9 2 75 every 9;machine 9 9"
                + ";rule empty = 1;rule empty = 2;rule empty = 0");
        s.is(holds(empty, 0) + " " + holds(empty, 1) + " " + empty.isRuleMet(2, 1), "true false true");
        empty.advance(1);
        s.is(empty.estimateOf(0, 2), 1.25f);
        s.is(holds(empty, 0) + " " + holds(empty, 1), "true false");
        empty.advance(1);
        s.is(empty.estimateOf(0, 2) + " " + empty.stockOf(0, 2), "0.5 1");
        s.is(holds(empty, 0) + " " + holds(empty, 1), "false true");
        // At first days and weekday are 1, and the others are 0.
        for (String value : new String[] {"days", "weekday", "cash", "visits", "empty"}) {
            int is = value.startsWith("d") || value.startsWith("w") ? 1 : 0;
            for (int number : new int[] {0, 1, 2, 9998, 9999}) {
                VendingRoutes compared = fleet(Fleets.head(9, 0, 0, 0, 0, 1), ";machine 0 0;rule " + value + " < "
                        + number + ";rule " + value + " = " + number + ";rule " + value + " > " + number + ";rule not "
                        + value + " < " + number + " and not " + value + " > " + number);
                s.is(value + " and " + number + ": " + holds(compared, 0) + " " + holds(compared, 1) + " "
                        + holds(compared, 2) + " " + holds(compared, 3), value + " and " + number + ": "
                        + (is < number) + " " + (is == number) + " " + (is > number) + " " + (is == number));
            }
        }
        // From left to right: days = 1 is true and days = 0 is false on the first day.
        String[] tests = {"days = 1 or days = 1 and days = 0", "days = 0 and days = 0 or days = 1",
            "days = 1 or (days = 1 and days = 0)", "days = 0 and (days = 0 or days = 1)", "days = 1 and days = 1",
            "days = 1 and days = 0", "days = 0 or days = 0", "days = 0 or days = 1",
            "days = 1 or days = 0 and days = 0 or days = 0", "days = 0 or days = 1 and days = 1 and days = 1"};
        boolean[] due = {false, true, true, false, true, false, false, true, false, true};
        for (int i = 0; i < tests.length; i++) {
            VendingRoutes test = fleet(Fleets.head(9, 0, 0, 0, 0, 1), ";machine 0 0;rule " + tests[i]);
            s.is(tests[i] + ": " + holds(test, 0), tests[i] + ": " + due[i]);
        }
    }

    private void risk() {
        s.of("section 4", "The risk of a machine is a sum of floats");
        String products = ";product 1 1 7;product 1 1 11;product 1 1 999;product 1 1 0";
        String lines = ";machine 0 0;machine 1 0;slot 2 9 0 0;slot 3 9 0 2000;machine 2 0;slot 0 9 6 200"
                + ";machine 3 0;slot 0 9 5 200;machine 4 0;slot 0 9 7 200;machine 5 0;slot 0 9 7 200;slot 2 99 0 2000";
        VendingRoutes x = fleet(Fleets.head(9, 0, 0, 0, 0, 3), products + lines);
        float[] due = {0f, 0f, 0f, 7f, 0f, 60f * 999f};
        for (int m = 0; m < due.length; m++) {
            s.is(x.risk(m), due[m]);
        }
        // The PENALTY of the product that is in the slot counts, not of the one that is to come.
        x.changeMix(3, 0, 2, 0);
        s.is(x.risk(3), 7f);
        s.is(fleet(Fleets.head(9, 0, 0, 0, 0, 1), products + ";machine 1 0;slot 1 9 0 150").risk(0), 16.5f);
        s.is(fleet(Fleets.head(9, 0, 0, 0, 0, 30), products + ";machine 1 0;slot 1 9 9 150").risk(0), 396f);
        // In the other order, and with doubles, it is 420.12.
        VendingRoutes order = fleet(Fleets.head(9, 0, 0, 0, 0, 3), products
                + ";machine 1 0;slot 0 9 0 1;slot 1 9 0 1;slot 2 9 0 14"
                + ";machine 1 0;slot 2 9 0 14;slot 1 9 0 1;slot 0 9 0 1");
        s.is(order.risk(0), 420.12003f);
        s.is(order.risk(1), 420.12f);
    }

    private void routeMinutes() {
        s.of("section 4", "The minutes of a route are those of the way");
        String line = ";product 1 1 1;machine 3 0;slot 0 1 0 0;machine 3 4;slot 0 1 0 0;machine 0 4;slot 0 1 0 0";
        s.is(fleet(Fleets.head(999, 0, 0, 0, 0, 1), line).routeMinutes(), 14);
        s.is(fleet(Fleets.head(999, 0, 5, 0, 0, 1), line).routeMinutes(), 29);
        s.is(fleet(Fleets.head(999, 0, 99, 0, 0, 1), line).routeMinutes(), 311);
        s.is(fleet(Fleets.head(999, 0, 99, 0, 0, 1), line.replace(" 0 1 0 0", " 0 1 1 0")).routeMinutes(), 0);
        s.is(fleet(Fleets.head(999, 0, 7, 0, 0, 1), ";product 1 1 1;machine 0 0;slot 0 1 0 0").routeMinutes(), 7);
        String away = Fleets.head(999, 0, 1, 0, 0, 1).replace("fleet 0 0", "fleet 10 10");
        s.is(fleet(away, line).routeMinutes(), 16 + 3 + 4 + 17 + 3);
        VendingRoutes x = fleet(Fleets.head(999, 0, 5, 0, 0, 1), line);
        s.is(route(x), "210");
        x.advance(2);
        s.is(x.minutes(), 58);
    }

    private void orderOfDueMachines() {
        s.tellsNothing("section 4", "A route is planned as follows.");
        s.of("section 4", "- The due machines are taken one after the other");
        // The way there and back takes 20 minutes for each, and there is time for one place only.
        String apart = ";product 1 1 10;machine 10 0;slot 0 9 0 100;machine 0 10;slot 0 9 0 200"
                + ";machine 10 0;slot 0 9 0 200";
        VendingRoutes x = fleet(Fleets.head(20, 0, 0, 0, 0, 1), apart);
        s.is(route(x), "1");
        x.force(0);
        s.is(route(x), "20");
        x.force(2);
        s.is(route(x), "02");
        x.force(1);
        s.is(route(x), "1");
        VendingRoutes same = fleet(Fleets.head(20, 0, 0, 0, 0, 1),
                ";machine 10 0;machine 0 10;machine 10 0;rule days > 0");
        s.is(route(same), "20");
        same.force(1);
        s.is(route(same), "1");
        // All eight, with risks of 30, 10, 80, 20, 80, 50, 0 and 60, one VISIT each: as many as there is time for.
        int[] rates = {300, 100, 800, 200, 800, 500, 0, 600};
        StringBuilder eight = new StringBuilder(";product 1 1 10");
        for (int rate : rates) {
            eight.append(";machine 0 0;slot 0 9 0 ").append(rate);
        }
        String[] due = {"2", "42", "742", "5742", "05742", "305742", "1305742", "61305742", "61305742"};
        for (int shift = 1; shift <= due.length; shift++) {
            s.is(route(fleet(Fleets.head(shift, 0, 1, 0, 0, 1), eight.toString())), due[shift - 1]);
        }
    }

    private void insertion() {
        s.of("section 4", "A machine is inserted into the route at the place");
        // Of several places the first one: in front of a machine at the same point.
        VendingRoutes same = fleet(Fleets.head(20, 0, 0, 0, 0, 1),
                ";machine 5 5;machine 5 5;machine 5 5;rule days = 1");
        s.is(route(same), "210");
        // 2 lies between 1 and 0, and 3 between 0 and the depot.
        VendingRoutes between = fleet(Fleets.head(99, 0, 0, 0, 0, 1), ";machine 9 0;machine 0 9;machine 9 9;machine 4 0"
                + ";rule days = 1");
        s.is(route(between), "1203");
        s.is(between.routeMinutes(), 36);
        // Exactly SHIFT is enough; one minute more is not, and then the next machine may still fit.
        String lines = ";machine 10 0;machine 11 0;machine 4 0;rule days = 1";
        int[] shifts = {999, 25, 24, 23, 22, 21, 20, 9, 8, 1};
        String[] routes = {"210", "210", "10", "20", "20", "0", "2", "2", "", ""};
        int[] minutes = {25, 25, 24, 22, 22, 21, 9, 9, 0, 0};
        for (int i = 0; i < shifts.length; i++) {
            VendingRoutes x = fleet(Fleets.head(shifts[i], 0, 1, 0, 0, 1), lines);
            s.is(shifts[i] + ": " + route(x), shifts[i] + ": " + routes[i]);
            s.is(x.routeMinutes(), minutes[i]);
        }
        VendingRoutes x = fleet(Fleets.head(999, 0, 1, 0, 0, 1), lines);
        x.setShift(24);
        s.is(route(x), "10");
        // In the place of a machine that is left out there is none, nor one of a route that was planned before.
        VendingRoutes out = fleet(Fleets.head(100, 0, 0, 0, 0, 1),
                ";machine 9 9;machine 9 9;machine 9 9;machine 9 0;machine 0 9;machine 99 99");
        for (int machine = 0; machine < 3; machine++) {
            out.force(machine);
        }
        s.is(route(out) + " " + out.routeMinutes(), "210 36");
        for (int machine = 3; machine < 6; machine++) {
            out.undo();
        }
        for (int machine = 3; machine < 6; machine++) {
            out.force(machine);
        }
        // Told by the first plan: a later one no longer has the earlier route behind it.
        s.is(out.routeMinutes() + " " + route(out), "36 43");
    }

    /** Machines that are due on day 1, without a risk, at the positions whose digits are given. */
    private static VendingRoutes places(int shift, String positions) {
        StringBuilder lines = new StringBuilder();
        for (String position : positions.split(" ")) {
            lines.append(";machine ").append(position.charAt(0)).append(' ').append(position.charAt(1));
        }
        return fleet(Fleets.head(shift, 0, 0, 0, 0, 1), lines + ";rule days = 1");
    }

    private void improvement() {
        s.of("section 4", "- Then the route is improved");
        // The positions, the route, and its minutes; beside them the route before and the reversals of it.
        String[][] cases = {
            // Nothing to reverse: a single machine, two, and three in a row.
            {"95", "0", "28"}, {"90 09", "10", "36"}, {"10 20 30", "210", "6"},
            // [1,3,2,0]: 1 to 3.
            {"06 04 36 62", "1023", "24"},
            // [4,2,3,1,0]: 1 to 2, where 1 to 3 would have led to 30 minutes.
            {"32 33 52 67 05", "43210", "28"},
            // [1,4,2,0,3]: 1 to 3, where the best one would have led to 32 minutes.
            {"35 05 78 34 71", "10243", "36"},
            // [4,1,2,0,3]: 1 to 3, where the last one would have led to another route of 32 minutes.
            {"47 35 66 53 08", "40213", "32"},
            // [1,3,2,0,4]: 1 to 4, then 2 to 3, where the smallest j first would have led to another route.
            {"65 04 88 83 08", "14203", "36"},
            // [1,2,3,0]: 0 to 1, 1 to 3. [5,1,3,4,0,2]: 3 to 5, 1 to 5.
            {"74 06 14 59", "2031", "32"}, {"88 31 90 72 48 03", "540231", "38"},
            // [4,2,1,0,3]: 1 to 2, 2 to 3, 3 to 4.
            {"83 68 51 70 06", "41032", "34"},
            // [3,4,2,1,0]: 0 to 3, 0 to 2, 2 to 3, 3 to 4.
            {"08 07 97 28 83", "42301", "34"},
            // Eight machines, with one, two, three, four, five and six reversals.
            {"60 39 54 76 20 07 53 29", "40623175", "34"}, {"09 16 04 14 94 04 57 48", "52346701", "38"},
            {"15 32 51 13 88 39 63 09", "30754621", "38"}, {"15 19 40 82 91 13 49 88", "50167342", "36"},
            {"42 25 72 32 17 14 87 74", "51467203", "32"}, {"37 80 91 31 94 68 86 85", "30567421", "34"},
        };
        for (String[] given : cases) {
            VendingRoutes x = places(999, given[0]);
            s.is(given[0] + ": " + route(x) + " " + x.routeMinutes(), given[0] + ": " + given[1] + " " + given[2]);
        }
        // It is improved when all are inserted: with the last one it takes 28 minutes before, and 24 then.
        s.is(route(places(28, "06 04 36 62")), "1023");
        s.is(route(places(27, "06 04 36 62")), "120");
    }

    private void loads() {
        s.of("section 4", "- Then units are loaded");
        VendingRoutes x = fleet(Fleets.head(9, 99, 0, 0, 0, 1), ";product 1 1 1;product 1 1 1"
                + ";machine 0 0;slot 0 10 10 0;slot 0 9 9 50 every 30;slot 1 7 3 0;machine 9 9;slot 0 9 9 0");
        s.is(x.plannedLoad(0) + " " + x.plannedLoad(1), "0 0");
        x.force(0);
        s.is(x.plannedLoad(0) + " " + x.plannedLoad(1), "0 4");
        x.undo();
        // Estimates of 8.5, 8 and 7.5 of 9.
        int[] due = {1, 1, 2};
        for (int units : due) {
            x.advance(1);
            x.force(0);
            s.is(x.plannedLoad(0), units);
            x.undo();
        }
        // A mix change takes CAPACITY units of the new product, even if that is the present one.
        x.changeMix(0, 0, 1, 0);
        s.is(x.plannedLoad(0) + " " + x.plannedLoad(1), "2 14");
        x.changeMix(0, 2, 1, 0);
        s.is(x.plannedLoad(0) + " " + x.plannedLoad(1), "2 17");
        VendingRoutes half = fleet(Fleets.head(9, 99, 0, 0, 5, 1), ";product 1 1 1;machine 0 0;slot 0 9 1 50 every 9");
        half.advance(1);
        half.force(0);
        s.is(half.estimateOf(0, 0) + " " + half.plannedLoad(0), "0.5 9");

        s.of("section 4", "No more units are loaded when there are LOAD units");
        // The route is 1, 0: first 9 units of product 0, then 4 of product 1, 2 of product 0, and 4 of product 1.
        int[][] loaded = {{0, 0, 0}, {1, 1, 0}, {9, 9, 0}, {10, 9, 1}, {13, 9, 4}, {14, 10, 4}, {15, 11, 4},
            {16, 11, 5}, {18, 11, 7}, {19, 11, 8}, {20, 11, 8}, {9999, 11, 8}};
        for (int[] units : loaded) {
            VendingRoutes y = fleet(Fleets.head(999, units[0], 0, 0, 0, 1), ";product 1 1 1;product 1 1 1"
                    + ";machine 5 0;slot 1 4 0 0;slot 0 2 0 0;slot 1 4 0 0;machine 9 0;slot 0 9 0 0");
            s.is(route(y), "10");
            s.is(units[0] + ": " + y.plannedLoad(0) + " " + y.plannedLoad(1),
                    units[0] + ": " + units[1] + " " + units[2]);
            y.advance(1);
            s.is(y.filledOf(1, 0) + y.filledOf(0, 0) + y.filledOf(0, 1) + y.filledOf(0, 2), Math.min(units[0], 19));
        }
    }

    // ---- section 5

    private void days() {
        s.of("section 5", "It is day 0 at first; the last day is day 2000.");
        VendingRoutes x = Fleets.loaded(Fleets.TWO);
        s.is(x.day(), 0);
        for (int i = 0; i < 19; i++) {
            x.advance(100);
        }
        x.advance(99);
        s.is(x.day(), 1999);
        s.fails(IllegalArgumentException.class, () -> x.advance(2));
        x.advance(1);
        s.is(x.day(), 2000);
        s.fails(IllegalArgumentException.class, () -> x.advance(1));
        s.is(x.day(), 2000);

        s.of("section 5", "A day consists of these steps, in this order.");
        // Planned by the number of the new day, filled before it sells, and read behind all of it.
        VendingRoutes order = fleet(Fleets.head(9, 9, 0, 100, 0, 1), ";product 10 1 7;machine 0 0;slot 0 9 1 250"
                + ";rule weekday = 1");
        order.advance(1);
        s.is(order.filledOf(0, 0) + " " + order.soldOf(0, 0) + " " + order.lostOf(0, 0), "8 2 0");
        s.is(order.cashIn(0) + " " + order.account(), "20 0");
        s.is(order.estimateOf(0, 0) + " " + order.rateOf(0, 0), "7.0 2.0");
        order.advance(1);
        s.is(order.estimateOf(0, 0) + " " + order.rateOf(0, 0) + " " + order.account(), "4.0 3.0 0");

        s.of("section 5", "(a) The number of the day grows by 1.");
        VendingRoutes a = fleet(Fleets.head(9, 0, 0, 0, 0, 1), ";machine 0 0;rule weekday = 1");
        a.advance(1);
        s.is(a.day(), 1);
        s.is(event(a, 0), "1 0 0 0");
        s.is(a.lastVisit(0), 1);
        a.advance(100);
        s.is(a.day(), 101);

        s.of("section 5", "(b) The route is planned, and its minutes are added");
        VendingRoutes b = fleet(Fleets.head(20, 0, 3, 0, 0, 1), ";machine 5 0;machine 9 9;rule weekday = 1");
        b.advance(1);
        s.is(b.minutes(), 13);
        b.advance(6);
        s.is(b.minutes(), 13);
        b.advance(1);
        s.is(b.minutes(), 26);
        s.is(b.visitsOf(0) + " " + b.visitsOf(1), "2 0");
        // By the estimate of 2.5, which is low, though the stock of 3 is not.
        VendingRoutes low = fleet(Fleets.head(9, 9, 0, 0, 25, 1), ";product 1 1 1;machine 0 0;slot 0 10 3 50 every 9");
        low.advance(1);
        s.is(low.stockOf(0, 0) + " " + low.visitsOf(0), "3 0");
        low.advance(1);
        s.is(low.visitsOf(0), 1);

        s.of("section 5", "No machine is forced any more.");
        VendingRoutes forced = fleet(Fleets.head(9, 0, 0, 0, 0, 1), ";machine 0 0;machine 9 9");
        forced.force(0);
        forced.force(1);
        forced.advance(1);
        s.is(forced.visitsOf(0) + " " + forced.visitsOf(1), "1 0");
        s.is(forced.isDue(0) + " " + forced.isDue(1), "false false");
        forced.setShift(999);
        forced.advance(1);
        s.is(forced.visitsOf(0) + " " + forced.visitsOf(1), "1 0");
        s.is(forced.force(1), true);
    }

    private void visits() {
        s.of("section 5", "(c) Each machine of the route is visited, in its order.");
        VendingRoutes x = places(999, "74 06 14 59");
        x.advance(1);
        s.is(event(x, 0) + ", " + event(x, 1) + ", " + event(x, 2) + ", " + event(x, 3),
                "1 0 2 0, 1 0 0 0, 1 0 3 0, 1 0 1 0");
        s.is(x.events(), 4);
        VendingRoutes none = fleet(Fleets.head(9, 9, 9, 0, 0, 1), ";machine 0 0");
        none.advance(100);
        s.is(none.events() + " " + none.minutes() + " " + none.visitsOf(0) + " " + none.lastVisit(0), "0 0 0 -1");

        s.of("section 5", "First, for each of its slots, in their order: the slot is read.");
        // Read on day 2 only by the visit, before it is filled; 0 units were sold on day 1 at 50.
        VendingRoutes read = fleet(Fleets.head(9, 3, 0, 100, 0, 1), ";product 1 1 1;machine 0 0;slot 0 9 7 50 every 30"
                + ";slot 0 9 7 150 every 30;slot 0 9 7 0 every 30");
        read.advance(1);
        read.force(0);
        s.is(read.plannedLoad(0), 3);
        read.advance(1);
        s.is(read.rateOf(0, 0) + " " + read.rateOf(0, 1), "0.0 1.0");
        // The first slot takes 2 of the 3 units, the second one has room for 3 and takes what is left.
        s.is(read.filledOf(0, 0) + " " + read.filledOf(0, 1) + " " + read.filledOf(0, 2), "2 1 0");
    }

    private void mixChanges() {
        s.of("section 5", "If a mix change is pending, all its units are returned");
        // The 5 units that are returned do not go into the second slot, for they are not loaded ones.
        VendingRoutes x = fleet(Fleets.head(9, 9, 0, 50, 0, 1), ";product 9 2 5;product 30 11 6"
                + ";machine 0 0;slot 0 9 5 100 every 30;slot 0 9 3 0");
        x.changeMix(0, 0, 1, 250);
        s.is(x.productOf(0, 0) + " " + x.rateOf(0, 0) + " " + x.returnedOf(0, 0), "0 1.0 0");
        x.advance(1);
        s.is(x.returnedOf(0, 0) + " " + x.returnedOf(0, 1), "5 0");
        s.is(x.productOf(0, 0) + " " + x.rateOf(0, 0) + " " + x.pendingOf(0, 0), "1 2.5 -1");
        s.is(x.filledOf(0, 0) + " " + x.filledOf(0, 1) + " " + x.stockOf(0, 1), "9 0 3");
        s.is(x.soldOf(0, 0) + " " + x.cashIn(0) + " " + x.estimateOf(0, 0), "2 60 6.5");
        s.is(x.profit(), 2L * 30 - 9 * 11 + 5 * 2);
        x.advance(1);
        s.is(x.soldOf(0, 0) + " " + x.visitsOf(0), "5 1");
        // An empty slot returns nothing; the RATE may be 0 or 2000.
        VendingRoutes empty = fleet(Fleets.head(9, 0, 0, 50, 0, 1), ";product 9 2 5;machine 0 0;slot 0 9 0 100");
        empty.changeMix(0, 0, 0, 2000);
        empty.advance(1);
        s.is(empty.returnedOf(0, 0) + " " + empty.rateOf(0, 0) + " " + empty.lostOf(0, 0), "0 20.0 20");
        empty.changeMix(0, 0, 0, 0);
        empty.advance(1);
        s.is(empty.returnedOf(0, 0) + " " + empty.rateOf(0, 0) + " " + empty.lostOf(0, 0), "0 0.0 20");
        // A machine that is left out keeps its mix change.
        VendingRoutes left = left(50, ";machine 9 9;slot 0 9 5 100 every 30");
        left.changeMix(0, 0, 0, 250);
        left.advance(2);
        s.is(left.pendingOf(0, 0) + " " + left.rateOf(0, 0) + " " + left.stockOf(0, 0), "0 1.0 3");
    }

    private void fillingAndCash() {
        s.of("section 5", "Then it is filled with loaded units of its product");
        // Machine 0 is taken for fuller than it is: 7 instead of 6. Machine 1 is taken for emptier: 8.34 instead of 9.
        String text = ";product 1 1 1;product 1 1 1;machine 0 0 gap 2 99;slot 0 9 9 150"
                + ";machine 0 0 gap 1 99;slot 0 9 9 33";
        VendingRoutes shared = fleet(Fleets.head(9, 9, 0, 100, 0, 1), text);
        shared.advance(2);
        s.is(shared.stockOf(0, 0) + " " + shared.estimateOf(0, 0) + " " + shared.stockOf(1, 0), "6 7.0 9");
        VendingRoutes apart = fleet(Fleets.head(9, 9, 0, 100, 0, 1), text.replace("0 9 9 33", "1 9 9 33"));
        apart.advance(2);
        for (VendingRoutes x : new VendingRoutes[] {shared, apart}) {
            x.force(0);
            x.force(1);
            s.is(route(x), "10");
            s.is(x.plannedLoad(0) + x.plannedLoad(1), 3);
            x.advance(1);
        }
        // The unit that does not fit into machine 1 goes into machine 0, if it is of its product.
        s.is(shared.filledOf(0, 0) + " " + shared.filledOf(1, 0) + " " + shared.leftover(), "3 0 0");
        s.is(apart.filledOf(0, 0) + " " + apart.filledOf(1, 0) + " " + apart.leftover(), "2 0 1");
        // The estimate became the stock of 9, or of 8, and the evening took the rate of 2 that was read.
        s.is(shared.estimateOf(0, 0) + " " + apart.estimateOf(0, 0), "7.0 6.0");
        s.is(shared.stockOf(0, 0) + " " + apart.stockOf(0, 0), "8 7");
        // Just as many as fit, one less, and none.
        for (int load : new int[] {0, 4, 5, 6}) {
            VendingRoutes x = fleet(Fleets.head(9, load, 0, 0, 50, 1), ";product 1 1 1;machine 0 0;slot 0 9 4 0");
            x.advance(1);
            s.is(x.stockOf(0, 0) + " " + x.estimateOf(0, 0), Math.min(9, 4 + load) + " " + Math.min(9f, 4f + load));
        }

        s.of("section 5", "At last the cash of the machine is added");
        VendingRoutes cash = fleet(Fleets.head(9, 9, 0, 0, 0, 1), ";product 7 0 0;machine 0 0;slot 0 9 9 200"
                + ";machine 9 9;slot 0 9 9 100;rule days > 0");
        String[] due = {"0 14 7", "14 14 14", "28 14 21"};
        for (String amounts : due) {
            cash.advance(1);
            s.is(cash.account() + " " + cash.cashIn(0) + " " + cash.cashIn(1), amounts);
        }

        s.of("section 5", "Loaded units that are left behind the last visit");
        VendingRoutes back = fleet(Fleets.head(9, 1, 0, 0, 0, 1), ";product 1 1 1;machine 0 0 gap 1 9;slot 0 9 9 33");
        s.is(back.leftover(), 0);
        back.advance(2);
        back.force(0);
        s.is(back.plannedLoad(0), 1);
        back.advance(1);
        s.is(back.leftover() + " " + back.filledOf(0, 0) + " " + back.profit(), "1 0 0");
        s.is(back.plannedLoad(0), 0);
        back.advance(1);
        s.is(back.leftover(), 1);
    }

    private void sales() {
        s.of("section 5", "(d) Each slot sells as many units of its product");
        String line = ";product 999 1 1;product 7 1 1;machine 9 9;slot 0 9 ";
        for (int stock : new int[] {0, 1, 2, 3}) {
            VendingRoutes x = fleet(Fleets.head(1, 0, 0, 0, 0, 1), line + stock + " 200");
            x.advance(1);
            s.is(x.soldOf(0, 0) + " " + x.stockOf(0, 0), Math.min(2, stock) + " " + Math.max(0, stock - 2));
            s.is(x.cashIn(0), 999 * Math.min(2, stock));
        }
        VendingRoutes mixed = fleet(Fleets.head(1, 9, 0, 0, 0, 1), line.replace("9 9", "0 0") + "9 100;slot 1 9 9 300");
        mixed.advance(1);
        s.is(mixed.cashIn(0), 999 + 3 * 7);
        mixed.changeMix(0, 0, 1, 100);
        mixed.advance(1);
        s.is(mixed.cashIn(0) + " " + mixed.account(), 4 * 7 + " " + (999 + 3 * 7));

        s.of("section 5", "The units of the demand that it cannot sell are lost.");
        for (int stock : new int[] {0, 1, 2, 3}) {
            VendingRoutes x = fleet(Fleets.head(1, 0, 0, 0, 0, 1),
                    ";product 1 1 9;machine 9 9;slot 0 9 " + stock + " 200");
            s.is(x.advance(1), Math.max(0, 2 - stock));
            s.is(x.lostOf(0, 0) + " " + x.lostCost(), Math.max(0, 2 - stock) + " " + 9 * Math.max(0, 2 - stock));
        }
    }

    private void evenings() {
        s.of("section 5", "(e) Each estimated stock becomes less by the estimated rate");
        VendingRoutes e = left(0, ";machine 9 9 gap 0 9999;slot 0 9 2 100;slot 0 9 1 150;slot 0 9 9 0;slot 0 9 0 2000"
                + ";slot 0 9 3 299");
        e.advance(1);
        s.is(e.estimateOf(0, 0) + " " + e.estimateOf(0, 1) + " " + e.estimateOf(0, 2) + " " + e.estimateOf(0, 3),
                "1.0 0.0 9.0 0.0");
        s.is(e.estimateOf(0, 4), 3f - 2.99f);
        e.advance(1);
        s.is(e.estimateOf(0, 0) + " " + e.estimateOf(0, 1) + " " + e.estimateOf(0, 2) + " " + e.estimateOf(0, 3),
                "0.0 0.0 9.0 0.0");
        s.is(e.estimateOf(0, 4), 0f);
        e.advance(1);
        s.is(e.estimateOf(0, 0), 0f);

        s.of("section 5", "(f) Each slot that reports is read.");
        VendingRoutes f = left(100, ";machine 9 9 gap 2 2;slot 0 9 9 150;slot 0 9 9 150 every 2;slot 0 9 9 150 every 3"
                + ";machine 9 9;slot 0 9 9 150 every 2");
        f.advance(1);
        s.is(f.estimateOf(0, 0) + " " + f.estimateOf(0, 1) + " " + f.estimateOf(1, 0), "8.0 7.5 7.5");
        s.is(f.rateOf(0, 0) + " " + f.rateOf(0, 1) + " " + f.rateOf(1, 0), "1.0 1.5 1.5");
        f.advance(1);
        s.is(f.estimateOf(0, 0) + " " + f.estimateOf(0, 1) + " " + f.estimateOf(1, 0), "7.0 6.0 6.0");
        s.is(f.stockOf(0, 0), 6);
        f.advance(1);
        s.is(f.estimateOf(0, 0) + " " + f.estimateOf(0, 1) + " " + f.estimateOf(0, 2), "5.0 4.5 5.0");
    }

    private void events() {
        s.of("section 5", "Events are, in the order in which they occur");
        VendingRoutes x = fleet(Fleets.head(9, 99, 0, 0, 0, 1), ";product 1 1 1;machine 0 0;slot 0 9 9 0;slot 0 8 8 0"
                + ";slot 0 7 7 0;machine 0 0;slot 0 6 6 0;slot 0 5 5 0;machine 0 0");
        x.changeMix(0, 2, 0, 0);
        x.changeMix(0, 0, 0, 0);
        x.changeMix(1, 1, 0, 0);
        x.force(2);
        x.deposit(5);
        s.is(x.events() + ": " + event(x, 0), "1: 0 2 5 0");
        s.is(route(x), "102");
        x.advance(1);
        x.deposit(0);
        String[] due = {"0 2 5 0", "1 1 1 1", "1 0 1 5", "1 1 0 0", "1 1 0 2", "1 0 0 16", "1 0 2 0", "1 2 0 0"};
        s.is(x.events(), due.length);
        for (int i = 0; i < due.length; i++) {
            s.is(event(x, i), due[i]);
        }
        // What is no such event leaves none.
        x.force(1);
        x.setGap(0, 1, 2);
        x.setLevel(0);
        x.setShift(9);
        x.changeMix(0, 0, 0, 5);
        s.is(x.events(), due.length);

        s.of("section 5", "The first 300 are kept.");
        VendingRoutes full = fleet(Fleets.head(9, 0, 0, 0, 0, 1), ";product 1 1 1" + ";machine 0 0".repeat(8)
                + ";slot 0 9 9 0;rule days > 0");
        full.advance(37);
        s.is(full.events(), 296);
        full.deposit(1);
        full.deposit(2);
        full.deposit(3);
        s.is(full.events(), 299);
        full.changeMix(7, 0, 0, 0);
        full.advance(1);
        s.is(full.events(), 300);
        s.is(event(full, 298) + ", " + event(full, 299), "37 2 3 0, 38 1 7 0");
        full.deposit(4);
        full.advance(100);
        s.is(full.events(), 300);
        s.is(event(full, 0) + ", " + event(full, 299), "1 0 7 0, 38 1 7 0");
        s.fails(IndexOutOfBoundsException.class, () -> full.event(300, 0));
        s.is(full.visitsOf(7) + " " + full.deposited(), "138 10");
        full.undo();
        full.undo();
        s.is(full.events(), 300);
        full.undo();
        s.is(full.events(), 299);
        full.deposit(6);
        s.is(event(full, 299), "37 2 6 0");
    }
}
