import java.util.Objects;

/** At least one check for each promise of the document; the due answers are worked out by hand from its words. */
public final class PromiseTest {
    private static final int NONE = VendingRoutes.NONE;
    private static final Class<?> STATE = IllegalStateException.class;
    private static final Class<?> INDEX = IndexOutOfBoundsException.class;
    private static final Class<?> ARGUMENT = IllegalArgumentException.class;
    private static final int MIN = Integer.MIN_VALUE;
    private static final int MAX = Integer.MAX_VALUE;

    private static final int[] checks = new int[65];
    private static int wrong = 0;

    private PromiseTest() {
    }

    private static void is(int promise, Object answer, Object due) {
        checks[promise]++;
        if (!Objects.equals(answer, due)) {
            wrong++;
            StackTraceElement from = new Throwable().getStackTrace()[1];
            String place = from.getMethodName().equals("fails") ? new Throwable().getStackTrace()[2].toString()
                    : from.toString();
            System.out.println("promise " + promise + ": " + answer + ", due is " + due + " at " + place);
        }
    }

    private static void fails(int promise, Class<?> due, Runnable call) {
        Class<?> thrown = null;
        try {
            call.run();
        } catch (RuntimeException e) {
            thrown = e.getClass();
        }
        is(promise, thrown, due);
    }

    private static VendingRoutes two() {
        return Fleets.loaded(Fleets.TWO);
    }

    private static VendingRoutes far() {
        return Fleets.loaded(Fleets.FAR);
    }

    private static VendingRoutes withLines(String lines) {
        return Fleets.loaded(Fleets.HEAD + lines);
    }

    public static void main(String[] args) {
        newObject();
        appending();
        loading();
        wrongTexts();
        allowedTexts();
        counts();
        slotNumbers();
        estimates();
        reporting();
        risks();
        dueMachines();
        ruleTests();
        daysLeft();
        machineNumbers();
        rankings();
        routes();
        loads();
        ways();
        totals();
        log();
        reportText();
        whatIf();
        bestLevels();
        bestForces();
        mixGains();
        advancing();
        forcing();
        mixChanges();
        settings();
        deposits();
        undoing();
        saving();
        fullFleet();
        everythingComesBack();
        nothingIsLeftOfAnEarlierFleet();
        withoutFleet();
        for (int promise = 1; promise <= 64; promise++) {
            if (checks[promise] == 0) {
                wrong++;
                System.out.println("no check for promise " + promise);
            }
        }
        System.out.println(java.util.Arrays.stream(checks).sum() + " checks, " + wrong + " wrong");
        System.exit(wrong == 0 ? 0 : 1);
    }

    private static void newObject() {
        VendingRoutes x = new VendingRoutes();
        is(1, x.buffered(), 0);
        is(1, x.machines(), 0);
        is(1, x.parseError(), 0);
        is(1, x.errorPosition(), NONE);
        is(1, x.undoable(), 0);
        fails(1, STATE, () -> x.advance(1));
        is(1, VendingRoutes.NONE, -1);
    }

    private static void appending() {
        VendingRoutes x = new VendingRoutes();
        for (int i = 1; i <= 60; i++) {
            is(2, x.append(0, 0, 0, 0, 0), 20 * i);
        }
        is(2, x.append(0, 0, 0, 0, 0), NONE);
        is(2, x.append(0, 0, 0, 0, 0), NONE);
        is(6, x.buffered(), 1200);
        // Each byte in its turn starts no token, behind nineteen blanks or fewer.
        for (int at = 0; at < 20; at++) {
            int[] words = new int[5];
            for (int i = 0; i < 20; i++) {
                words[i / 4] = words[i / 4] << 8 | (i < at ? ' ' : i == at ? 0x80 + i : 'x');
            }
            VendingRoutes y = new VendingRoutes();
            is(2, y.append(words[0], words[1], words[2], words[3], words[4]), 20);
            fails(2, ARGUMENT, () -> y.load(20));
            is(2, y.errorPosition(), at);
        }
    }

    private static void loading() {
        VendingRoutes x = new VendingRoutes();
        Fleets.write(x, Fleets.TWO);
        int bytes = x.buffered();
        fails(3, INDEX, () -> x.load(-1));
        fails(3, INDEX, () -> x.load(bytes + 1));
        fails(3, INDEX, () -> x.load(MAX));
        fails(3, INDEX, () -> x.load(MIN));
        is(3, x.buffered(), bytes);
        is(3, x.load(bytes), 2);
        is(3, x.buffered(), 0);
        fails(3, INDEX, () -> x.load(1));
        is(4, x.parseError(), 0);

        x.advance(3);
        x.save(0);
        x.save(1);
        Fleets.write(x, "fleet 100");
        fails(3, ARGUMENT, () -> x.load(9));
        is(3, x.buffered(), 0);
        is(3, x.day(), 3);
        is(3, x.machines(), 2);
        is(3, x.undoable(), 1);
        is(3, x.restore(0), 3);
        fails(3, INDEX, () -> x.load(1));
        is(4, x.parseError(), 2);
        is(5, x.errorPosition(), 6);

        x.advance(1);
        String text = Fleets.FAR;
        Fleets.write(x, text + ";machine 1 1");
        is(3, x.load(text.length()), 1);
        is(3, x.day(), 0);
        is(3, x.undoable(), 0);
        is(3, x.products(), 1);
        is(3, x.events(), 0);
        is(3, x.minutes(), 0);
        is(3, x.profit(), 0L);
        fails(3, STATE, () -> x.restore(0));
        fails(3, STATE, () -> x.restore(1));
        is(4, x.parseError(), 0);
        is(5, x.errorPosition(), NONE);
    }

    private static void refused(String text, int code, int at) {
        VendingRoutes x = new VendingRoutes();
        Fleets.write(x, text);
        fails(3, ARGUMENT, () -> x.load(text.length()));
        is(4, x.parseError() + " of " + text, code + " of " + text);
        is(5, x.errorPosition() + " of " + text, at + " of " + text);
    }

    /** The lines behind a head, and where in them the error is. */
    private static void refusedLines(String lines, int code, int at) {
        refused(Fleets.HEAD + lines, code, Fleets.HEAD.length() + at);
    }

    private static void wrongTexts() {
        refused("", 1, 0);
        refused("   ", 1, 3);
        refused("fleets 0", 1, 0);
        refused("machine 0 0", 1, 0);
        refused("fleet", 1, 5);
        refused("fleet  ", 1, 7);
        refused("fleet 0 0 shift 0", 2, 16);
        refused("fleet 0 0 shift 1000", 2, 16);
        refused("fleet 0 100", 2, 8);
        refused("fleet 0 99999", 2, 8);
        refused("fleet 0 000000", 1, 8);
        refused("fleet 0 0 shifts 5", 1, 10);
        refused("fleet 0 0 abcdefghij", 1, 10);
        refused("fleet 0 x", 1, 8);
        refused("fleet 0 -1", 1, 8);
        refused("fleet 0 0 shift 9 load 10000", 2, 23);
        refused("fleet 0 0 shift 9 load 9999 visit 100", 2, 34);
        refused("fleet 0 0 shift 9 load 0 visit 99 alpha 101", 2, 40);
        refused("fleet 0 0 shift 9 load 0 visit 0 alpha 100 level 101", 2, 49);
        refused("fleet 0 0 shift 9 load 0 visit 0 alpha 0 level 100 horizon 0", 2, 59);
        refused("fleet 0 0 shift 9 load 0 visit 0 alpha 0 level 100 horizon 31", 2, 59);
        refused("fleet 0 0 shift 9 load 0 visit 0 alpha 0 level 100 horizon 30", 5, 61);
        refused("fleet 0 0 shift 9 load 0 visit 0 alpha 0 level 100 horizon 30 ", 5, 62);
        refused("fleet 0 0 shift 9 load 0 visit 0 alpha 0 level 100 horizon 30;", 1, 62);
        refusedLines("", 5, 0);
        refusedLines(" 5", 1, 1);
        refusedLines(" product 1 1 1", 1, 1);
        refusedLines(";;", 1, 1);
        refusedLines(";gap", 1, 1);
        refusedLines(";xachine 0 0", 1, 1);
        refusedLines(";machines 0 0", 1, 1);
        refusedLines(";machin 0 0", 1, 1);
        refusedLines(";(", 1, 1);
        refusedLines(";!", 1, 1);
        refusedLines(";product 0", 2, 9);
        refusedLines(";product 1000", 2, 9);
        refusedLines(";product 999 1000", 2, 13);
        refusedLines(";product 999 999 1000", 2, 17);
        refusedLines(";product 999 999", 1, 16);
        refusedLines(";product 999 999 999 999", 1, 21);
        refusedLines(";product 1 1 1".repeat(5) + ";product", 4, 71);
        refusedLines(";machine 100", 2, 9);
        refusedLines(";machine 0 100", 2, 11);
        refusedLines(";machine 0", 1, 10);
        refusedLines(";machine 0 0 gap", 1, 16);
        refusedLines(";machine 0 0 gap 10000", 2, 17);
        refusedLines(";machine 0 0 gap 10 9", 2, 20);
        refusedLines(";machine 0 0 gap 10 10000", 2, 20);
        refusedLines(";machine 0 0 gaps", 1, 13);
        refusedLines(";machine 0 0 every 1", 1, 13);
        refusedLines(";machine 0 0".repeat(8) + ";machine", 4, 97);
        refusedLines(";slot 0", 3, 1);
        refusedLines(";rule days > 1;slot", 3, 15);
        refusedLines(";machine 0 0;slot 1", 2, 18);
        refusedLines(";machine 0 0;slot 0 0", 2, 20);
        refusedLines(";machine 0 0;slot 0 100", 2, 20);
        refusedLines(";machine 0 0;slot 0 9 10", 2, 22);
        refusedLines(";machine 0 0;slot 0 9 9 2001", 2, 24);
        refusedLines(";machine 0 0;slot 0 9 9", 1, 23);
        refusedLines(";machine 0 0;slot 0 9 9 0 every 0", 2, 32);
        refusedLines(";machine 0 0;slot 0 9 9 0 every 31", 2, 32);
        refusedLines(";machine 0 0;slot 0 9 9 0 every", 1, 31);
        refusedLines(";machine 0 0;slot 0 9 9 0 gap 0 0", 1, 26);
        refusedLines(";machine 0 0" + ";slot 0 1 1 1".repeat(5) + ";slot", 4, 78);
        refusedLines(";machine 0 0;slot 0 1 1 1;slot 1 1 1 1;product 1 1 1", 2, 31);
        refused("fleet 0 0 shift 9 load 0 visit 0 alpha 0 level 9 horizon 9;machine 0 0;slot 0", 2, 76);
        wrongRules();
    }

    private static void wrongRules() {
        refusedLines(";rule days > 1".repeat(4) + ";rule", 4, 57);
        refusedLines(";rule", 1, 5);
        refusedLines(";rule ;", 1, 6);
        refusedLines(";rule day > 1", 1, 6);
        refusedLines(";rule days", 1, 10);
        refusedLines(";rule days ( 1", 1, 11);
        refusedLines(";rule days >", 1, 12);
        refusedLines(";rule days > cash", 1, 13);
        refusedLines(";rule days > 10000", 2, 13);
        refusedLines(";rule days > 1 or", 1, 17);
        refusedLines(";rule days > 1 not", 1, 15);
        refusedLines(";rule days > 1 and and", 1, 19);
        refusedLines(";rule (days > 1", 1, 15);
        refusedLines(";rule (days > 1;machine 0 0", 1, 15);
        refusedLines(";rule days > 1)", 1, 14);
        refusedLines(";rule ()", 1, 7);
        refusedLines(";rule not", 1, 9);
        refusedLines(";rule days > 1", 5, 14);
        refusedLines(";rule " + "(".repeat(10) + "days > 1", 6, 16);
        refusedLines(";rule " + "(".repeat(10) + "not days > 1", 6, 16);
        refusedLines(";rule " + "(".repeat(11), 6, 16);
        refusedLines(";rule " + "(".repeat(10) + ")", 1, 16);
        refusedLines(";rule " + "(".repeat(10), 1, 16);
        refusedLines(";rule " + "not ".repeat(10) + "days > 1", 6, 46);
        refusedLines(";rule " + "not(".repeat(5) + "days > 1", 6, 26);
        refusedLines(";rule " + "(".repeat(9) + "days > 1 or (", 1, 28);
        refusedLines(";rule " + "(".repeat(9) + "days > 1 or (cash", 6, 28);
        refusedLines(";rule " + "(".repeat(9) + "days > 1 or cash", 1, 31);
    }

    private static void allowedTexts() {
        is(3, withLines(";machine 0 0").slots(0), 0);
        is(3, withLines(";machine99 99gap0 0;slot0 99 99 2000every30").slots(0), 1);
        is(3, withLines(" ;  machine 00000 00099 gap 9999 9999 ; slot 0 1 0 0 every 1  ").machines(), 1);
        is(3, withLines(";rule " + "(".repeat(9) + "days > 1" + ")".repeat(9) + ";machine 0 0").rules(), 1);
        is(3, withLines(";rule " + "not ".repeat(9) + "days > 1;machine 0 0").rules(), 1);
        is(3, withLines(";rule days<0and cash>9999or weekday=7;machine 0 0").rules(), 1);
        is(3, withLines(";machine 0 0" + ";slot 0 1 1 1".repeat(5) + ";machine 1 1;slot 0 1 1 1").slots(0), 5);
        is(3, withLines(";machine 0 0".repeat(8)).machines(), 8);
        is(3, withLines(";product 1 1 1".repeat(5) + ";machine 0 0;slot 5 1 0 0").products(), 6);
        is(3, withLines(";machine 0 0" + ";rule days > 1".repeat(4)).rules(), 4);
        // The bytes behind the first n do not count: not even the rest of a word or a number.
        VendingRoutes cut = new VendingRoutes();
        Fleets.write(cut, "fleets");
        fails(3, ARGUMENT, () -> cut.load(5));
        is(5, cut.errorPosition(), 5);
        VendingRoutes x = new VendingRoutes();
        String text = Fleets.HEAD + ";machine 1 1";
        Fleets.write(x, text + "2");
        is(3, x.load(text.length()), 1);
        is(36, x.minutesBetween(-1, 0), 2);
    }

    private static void counts() {
        VendingRoutes x = two();
        is(7, x.day(), 0);
        x.advance(7);
        is(7, x.day(), 7);
        is(8, x.machines(), 2);
        is(9, x.products(), 2);
        is(10, x.rules(), 0);
        is(10, withLines(";rule days > 1;machine 0 0;rule cash > 1").rules(), 2);
        is(6, x.buffered(), 0);
        is(11, x.slots(0), 2);
        is(11, x.slots(1), 1);
        fails(11, INDEX, () -> x.slots(2));
        fails(11, INDEX, () -> x.slots(-1));
        fails(11, INDEX, () -> x.slots(MAX));
    }

    /**
     * Day 1 of FAR demands 2 units, day 2 demands 3, day 3 demands 2, and there are 3 of them. On TWO, the first
     * machine is visited on day 1 (6 units of product 0) and on day 4 (6 and 1).
     */
    private static void slotNumbers() {
        VendingRoutes x = far();
        is(13, x.stockOf(0, 0), 3);
        x.advance(1);
        is(13, x.stockOf(0, 0), 1);
        is(14, x.soldOf(0, 0), 2);
        is(17, x.lostOf(0, 0), 0);
        x.advance(2);
        is(13, x.stockOf(0, 0), 0);
        is(14, x.soldOf(0, 0), 3);
        is(15, x.filledOf(0, 0), 0);
        is(17, x.lostOf(0, 0), 4);

        VendingRoutes y = two();
        is(12, y.productOf(0, 0), 0);
        is(12, y.productOf(0, 1), 1);
        is(18, y.pendingOf(0, 0), NONE);
        y.changeMix(0, 0, 1, 700);
        is(12, y.productOf(0, 0), 0);
        is(18, y.pendingOf(0, 0), 1);
        is(18, y.pendingOf(0, 1), NONE);
        y.advance(1);
        is(12, y.productOf(0, 0), 1);
        is(18, y.pendingOf(0, 0), NONE);
        is(16, y.returnedOf(0, 0), 4);
        is(15, y.filledOf(0, 0), 10);
        is(14, y.soldOf(0, 0), 7);
        is(13, y.stockOf(0, 0), 3);
        y.changeMix(0, 0, 0, 0);
        y.advance(1);
        is(16, y.returnedOf(0, 0), 7);
        is(14, y.soldOf(0, 0), 7);
        is(15, y.filledOf(0, 0), 20);
        is(13, y.stockOf(0, 0), 10);
        is(16, y.returnedOf(0, 1), 0);
        noSuchSlots(y);
    }

    private static void noSuchSlots(VendingRoutes x) {
        int[][] wrongs = {{2, 0}, {-1, 0}, {0, 2}, {0, -1}, {1, 1}, {MAX, 0}, {0, MIN}};
        for (int[] w : wrongs) {
            fails(12, INDEX, () -> x.productOf(w[0], w[1]));
            fails(13, INDEX, () -> x.stockOf(w[0], w[1]));
            fails(14, INDEX, () -> x.soldOf(w[0], w[1]));
            fails(15, INDEX, () -> x.filledOf(w[0], w[1]));
            fails(16, INDEX, () -> x.returnedOf(w[0], w[1]));
            fails(17, INDEX, () -> x.lostOf(w[0], w[1]));
            fails(18, INDEX, () -> x.pendingOf(w[0], w[1]));
            fails(19, INDEX, () -> x.estimateOf(w[0], w[1]));
            fails(20, INDEX, () -> x.rateOf(w[0], w[1]));
            fails(21, INDEX, () -> x.reports(w[0], w[1], 0));
        }
    }

    private static void estimates() {
        VendingRoutes x = far();
        is(19, x.estimateOf(0, 0), 3f);
        is(20, x.rateOf(0, 0), 2.5f);
        x.advance(1);
        is(19, x.estimateOf(0, 0), 0.5f);
        is(20, x.rateOf(0, 0), 2.5f);
        x.advance(1);
        is(19, x.estimateOf(0, 0), 0f);
        // Three units sold on the two days on which there was one: 2.5 + (1.5 - 2.5) * 0.5.
        x.advance(1);
        is(20, x.rateOf(0, 0), 2f);
        is(19, x.estimateOf(0, 0), 0f);
        // On days 4 to 6 nothing could be sold, so they say nothing about the rate.
        x.advance(3);
        is(20, x.rateOf(0, 0), 2f);

        // A report makes the estimate the stock: 9.5 - 0.5 is 9, but the demand of day 1 is 0 and that of day 2 is 1.
        String slow = "fleet 0 0 shift 1 load 50 visit 0 alpha 25 level 0 horizon 3;product 10 1 7"
                + ";machine 50 0;slot 0 10 9 50 every 2;slot 0 10 9 50 every 3;slot 0 10 9 33";
        VendingRoutes y = Fleets.loaded(slow);
        y.advance(1);
        is(19, y.estimateOf(0, 0), 8.5f);
        is(19, y.estimateOf(0, 2), 9f);
        is(20, y.rateOf(0, 2), 0.33f + (0f - 0.33f) * 0.25f);
        y.advance(2);
        is(20, y.rateOf(0, 0), 0.5f);
        is(19, y.estimateOf(0, 0), 7.5f);
        is(19, y.estimateOf(0, 1), 8f);
        is(20, y.rateOf(0, 1), 0.5f + (1f / 3f - 0.5f) * 0.25f);

        // A visit reads before it fills: day 2 is read with the 2 units of day 1, and the new RATE is not smoothed.
        VendingRoutes z = withLines(";machine 1 0;slot 0 10 10 100 every 30");
        z.advance(1);
        is(20, z.rateOf(0, 0), 1f);
        z.force(0);
        z.advance(1);
        is(19, z.estimateOf(0, 0), 9f);
        z.changeMix(0, 0, 0, 333);
        z.advance(1);
        is(20, z.rateOf(0, 0), 3.33f);
        is(19, z.estimateOf(0, 0), 10f - 3.33f);
    }

    private static void reporting() {
        VendingRoutes x = two();
        is(21, x.reports(0, 0, 1), true);
        is(21, x.reports(0, 1, 1), false);
        is(21, x.reports(0, 1, 2), true);
        is(21, x.reports(0, 1, 2000), true);
        is(21, x.reports(1, 0, 1), true);
        is(21, x.reports(1, 0, 2), false);
        is(21, x.reports(1, 0, 3), false);
        is(21, x.reports(1, 0, 4), true);
        fails(21, ARGUMENT, () -> x.reports(0, 0, 0));
        fails(21, ARGUMENT, () -> x.reports(0, 0, 2001));
        fails(21, ARGUMENT, () -> x.reports(0, 0, MIN));
        fails(21, INDEX, () -> x.reports(0, 2, 2001));
        // Read on the evening of day 1 and on the morning of day 2: the second time there is no day between.
        VendingRoutes twice = withLines(";machine 1 0;slot 0 10 10 100");
        twice.force(0);
        twice.advance(1);
        twice.force(0);
        twice.advance(1);
        is(20, twice.rateOf(0, 0), 1f);
        is(19, twice.estimateOf(0, 0), 9f);
        // A visit on the morning of day 3 reads what was sold on the days 1 and 2: 0 and 1 at half a unit a day.
        VendingRoutes visited = Fleets.loaded(Fleets.HEAD.replace("level 50", "level 0")
                + ";machine 1 0;slot 0 10 10 70 every 30");
        visited.advance(2);
        is(20, visited.rateOf(0, 0), 0.7f);
        visited.force(0);
        visited.advance(1);
        is(20, visited.rateOf(0, 0), 0.7f + (0.5f - 0.7f) * 0.5f);
        // Silent on day 1: the estimate stays an estimate.
        VendingRoutes y = Fleets.loaded(Fleets.FAR.replace("250 every 3", "50"));
        y.setGap(0, 1, 1);
        y.advance(1);
        is(21, y.estimateOf(0, 0), 2.5f);
        y.advance(1);
        is(21, y.estimateOf(0, 0), 2f);
    }

    private static void risks() {
        VendingRoutes x = two();
        // The first slot: 2 * 2 - 4 is 0; the second one has too much.
        is(22, x.risk(0), 0f);
        is(22, x.risk(1), 0f);
        VendingRoutes y = far();
        // (2.5 * 3 - 3) * 7
        is(22, y.risk(0), 31.5f);
        y.changeMix(0, 0, 0, 0);
        is(22, y.risk(0), 31.5f);
        VendingRoutes z = withLines(";product 1 1 999;machine 0 0;slot 0 9 1 130;slot 1 9 9 1000;slot 1 9 9 0"
                + ";machine 1 1");
        is(22, z.risk(0), 0f + (1.3f * 2f - 1f) * 7f + (10f * 2f - 9f) * 999f + 0f * 999f);
        is(22, z.risk(1), 0f);
        fails(22, INDEX, () -> z.risk(2));
        fails(22, INDEX, () -> z.risk(-1));
    }

    private static void dueMachines() {
        VendingRoutes x = two();
        is(23, x.isDue(0), true);
        is(23, x.isDue(1), false);
        x.force(1);
        is(23, x.isDue(1), true);
        x.undo();
        x.changeMix(1, 0, 0, 0);
        is(23, x.isDue(1), true);
        x.undo();
        x.setLevel(40);
        is(23, x.isDue(0), true);
        x.setLevel(39);
        is(23, x.isDue(0), false);
        x.setLevel(100);
        is(23, x.isDue(1), true);
        // The estimate counts, not the stock: 2.5 of 10 with a stock of 3.
        VendingRoutes y = Fleets.loaded(Fleets.FAR.replace("250 every 3", "50 every 3"));
        y.advance(1);
        is(13, y.stockOf(0, 0), 3);
        y.setLevel(25);
        is(23, y.isDue(0), true);
        y.setLevel(24);
        is(23, y.isDue(0), false);
        VendingRoutes z = withLines(";machine 0 0;rule weekday = 2 and empty = 0");
        is(23, z.isDue(0), false);
        z.advance(1);
        is(23, z.isDue(0), true);
        fails(23, INDEX, () -> z.isDue(1));
        fails(23, INDEX, () -> z.isDue(-1));
    }

    private static boolean met(String rule) {
        return withLines(";machine 0 0;rule " + rule).isRuleMet(0, 0);
    }

    private static void ruleTests() {
        is(24, met("days = 1"), true);
        is(24, met("days < 1"), false);
        is(24, met("days > 0"), true);
        is(24, met("days > 1"), false);
        is(24, met("days < 2"), true);
        is(24, met("weekday = 1"), true);
        is(24, met("cash = 0"), true);
        is(24, met("visits = 0"), true);
        is(24, met("empty = 0"), true);
        is(24, met("not days = 1"), false);
        is(24, met("not not days = 1"), true);
        // not binds one unit; and, or have the same rank from the left.
        is(24, met("not days = 1 or days = 1"), true);
        is(24, met("not (days = 1 or days = 1)"), false);
        is(24, met("days = 1 or days = 1 and days = 0"), false);
        is(24, met("days = 1 or (days = 1 and days = 0)"), true);
        is(24, met("days = 0 and days = 1 or days = 1"), true);
        is(24, met("days = 0 and (days = 1 or days = 1)"), false);
        is(24, met("days = 1 and not days = 0 and (not (days = 0 or not days = 1) and visits = 0)"), true);
        is(24, met("not((((((((days = 0))))))))"), true);

        VendingRoutes x = withLines(";machine 1 0;slot 0 10 6 250 every 9;slot 0 9 9 99 every 9;machine 2 0"
                + ";rule empty = 1;rule days = 3;rule visits = 1 and cash = 1;rule weekday = 0");
        is(24, x.isRuleMet(1, 0), false);
        // Day 1: the first machine is not due at 6 of 10. It sells 2 units; 3.5 are estimated.
        x.setLevel(0);
        x.advance(2);
        // The estimate is 6 - 5, so no slot has less than 1; after one day more it is.
        is(24, x.isRuleMet(0, 0), false);
        is(24, x.isRuleMet(1, 0), true);
        is(24, x.isRuleMet(1, 1), true);
        x.force(0);
        x.undo();
        x.setShift(1);
        x.advance(1);
        is(24, x.isRuleMet(0, 0), true);
        is(24, x.isRuleMet(0, 1), false);
        is(24, x.isRuleMet(2, 0), false);
        x.setShift(999);
        is(26, x.cashIn(0), 80);
        x.advance(1);
        is(28, x.lastVisit(0), 4);
        is(24, x.isRuleMet(1, 0), false);
        x.setShift(1);
        x.advance(2);
        is(24, x.isRuleMet(1, 0), true);
        is(24, x.isRuleMet(3, 0), true);
        x.advance(1);
        is(24, x.isRuleMet(3, 0), false);
        is(24, x.cashIn(0) / 100, 1);
        is(24, x.isRuleMet(2, 0), true);
        VendingRoutes rich = Fleets.loaded(Fleets.HEAD.replace("product 10", "product 100")
                + ";machine 1 0" + ";slot 0 99 99 2000".repeat(5) + ";rule cash = 100;rule cash > 99;rule cash < 100");
        rich.advance(1);
        is(26, rich.cashIn(0), 10000);
        is(24, rich.isRuleMet(0, 0), true);
        is(24, rich.isRuleMet(1, 0), true);
        is(24, rich.isRuleMet(2, 0), false);
        fails(24, INDEX, () -> x.isRuleMet(4, 0));
        fails(24, INDEX, () -> x.isRuleMet(-1, 0));
        fails(24, INDEX, () -> x.isRuleMet(0, 2));
        fails(24, INDEX, () -> x.isRuleMet(0, -1));
    }

    private static void daysLeft() {
        VendingRoutes x = withLines(";machine 0 0;slot 0 9 9 300;slot 0 9 9 0;machine 1 1;machine 2 2;slot 0 9 9 1"
                + ";machine 3 3;slot 0 9 9 10;machine 4 4;slot 0 9 0 0;machine 5 5;slot 0 9 9 301;slot 0 99 99 1");
        is(25, x.daysLeft(0), 3);
        is(25, x.daysLeft(1), 99);
        is(25, x.daysLeft(2), 99);
        is(25, x.daysLeft(3), 90);
        is(25, x.daysLeft(4), 0);
        is(25, x.daysLeft(5), 3);
        is(25, withLines(";machine 0 0;slot 0 99 98 100").daysLeft(0), 98);
        is(25, withLines(";machine 0 0;slot 0 99 99 100").daysLeft(0), 99);
        fails(25, INDEX, () -> x.daysLeft(6));
        fails(25, INDEX, () -> x.daysLeft(-1));
    }

    private static void machineNumbers() {
        VendingRoutes x = two();
        is(28, x.lastVisit(0), NONE);
        x.advance(1);
        is(26, x.cashIn(0), 200);
        is(26, x.cashIn(1), 300);
        is(27, x.visitsOf(0), 1);
        is(27, x.visitsOf(1), 0);
        is(28, x.lastVisit(0), 1);
        is(28, x.lastVisit(1), NONE);
        x.advance(3);
        is(26, x.cashIn(0), 350);
        is(27, x.visitsOf(0), 2);
        is(28, x.lastVisit(0), 4);
        for (int m : new int[] {-1, 2, MAX, MIN}) {
            fails(26, INDEX, () -> x.cashIn(m));
            fails(27, INDEX, () -> x.visitsOf(m));
            fails(28, INDEX, () -> x.lastVisit(m));
        }
    }

    private static void rankings() {
        VendingRoutes x = withLines(";machine 0 0;slot 0 10 5 0;slot 0 4 2 0;machine 1 1;machine 2 2;slot 0 10 4 0"
                + ";slot 0 99 99 0;slot 0 20 10 0");
        is(29, x.lowestSlot(0), 20);
        is(29, x.lowestSlot(1), 0);
        is(29, x.lowestSlot(2), 1);
        is(29, x.lowestSlot(3), 22);
        is(29, x.lowestSlot(4), 21);
        fails(29, INDEX, () -> x.lowestSlot(5));
        fails(29, INDEX, () -> x.lowestSlot(-1));
        is(30, x.stockOfProduct(0), 120);
        fails(30, INDEX, () -> x.stockOfProduct(1));
        fails(30, INDEX, () -> x.stockOfProduct(-1));
        VendingRoutes small = withLines(";machine 0 0;slot 0 99 98 0;slot 0 1 1 0;slot 0 1 0 0");
        is(29, small.lowestSlot(0), 2);
        is(29, small.lowestSlot(1), 0);
        is(29, small.lowestSlot(2), 1);
        VendingRoutes t = two();
        is(30, t.stockOfProduct(0), 24);
        is(30, t.stockOfProduct(1), 10);

        // Nothing is loaded. Machines 1 and 3 lose 2 units a day, machine 2 loses 3 in two slots, machine 0 loses none.
        VendingRoutes y = Fleets.loaded("fleet 0 0 shift 20 load 0 visit 0 alpha 0 level 0 horizon 1;product 1 1 1"
                + ";machine 0 0;machine 1 0;slot 0 1 0 200;machine 50 0;slot 0 1 0 100;slot 0 1 0 200"
                + ";machine 50 0;slot 0 1 0 200");
        is(31, y.worst(0), 0);
        is(31, y.worst(3), 3);
        y.advance(1);
        is(31, y.worst(0), 2);
        // The first machine is visited, the third one is not.
        is(27, y.visitsOf(1), 1);
        is(31, y.worst(1), 3);
        is(31, y.worst(2), 1);
        is(31, y.worst(3), 0);
        fails(31, INDEX, () -> y.worst(4));
        fails(31, INDEX, () -> y.worst(-1));
    }

    private static String route(VendingRoutes x) {
        StringBuilder route = new StringBuilder();
        for (int i = 0; i < x.routeLength(); i++) {
            route.append(x.routeAt(i));
        }
        return route.toString();
    }

    private static void routes() {
        VendingRoutes x = two();
        is(32, x.routeLength(), 1);
        is(33, x.routeAt(0), 0);
        is(34, x.routeMinutes(), 19);
        fails(33, INDEX, () -> x.routeAt(1));
        fails(33, INDEX, () -> x.routeAt(-1));
        x.force(1);
        // 7 + 11 + 10 + 2 * 5; the machine that is inserted later stands at the first of two equal places.
        is(34, x.routeMinutes(), 38);
        is(33, route(x), "01");
        x.setShift(37);
        is(33, route(x), "1");
        is(34, x.routeMinutes(), 25);
        x.setShift(38);
        is(32, x.routeLength(), 2);
        is(40, x.minutes(), 0);
        is(7, x.day(), 0);

        VendingRoutes empty = Fleets.loaded(Fleets.FAR);
        empty.force(0);
        is(32, empty.routeLength(), 0);
        is(34, empty.routeMinutes(), 0);
        fails(33, INDEX, () -> empty.routeAt(0));
        byRisk();
        improvedRoutes();
    }

    private static void byRisk() {
        String head = "fleet 0 0 shift 20 load 99 visit 0 alpha 0 level 100 horizon 1;product 1 1 10";
        // Each way is 20 minutes there and back, and there is time for one machine only.
        String east = ";machine 10 0;slot 0 9 0 100";
        String west = ";machine 0 10;slot 0 9 0 200";
        VendingRoutes x = Fleets.loaded(head + east + west);
        is(33, route(x), "1");
        x.force(0);
        is(33, route(x), "0");
        x.force(1);
        is(33, route(x), "1");
        is(33, route(Fleets.loaded(head + east + east.replace("10 0", "0 10"))), "0");
        String three = ";machine 3 0;slot 0 9 0 100;machine 2 0;slot 0 9 0 300;machine 1 0;slot 0 9 0 200";
        // In the order of the risks: 1; 2 in front of it; 0 between them, where it is as good as behind them.
        is(33, route(Fleets.loaded(head + three)), "201");
        is(33, route(Fleets.loaded(head.replace("shift 20", "shift 5") + three)), "21");
        is(33, route(Fleets.loaded(head.replace("shift 20", "shift 3") + three)), "2");
        // The route is that of the next day.
        VendingRoutes sunday = Fleets.loaded(head.replace("level 100", "level 0") + ";machine 1 1;rule weekday = 2");
        is(32, sunday.routeLength(), 0);
        sunday.advance(1);
        is(32, sunday.routeLength(), 1);
        sunday.advance(1);
        is(32, sunday.routeLength(), 0);
        // A pending mix change and a rule make a machine due too.
        VendingRoutes y = Fleets.loaded(head.replace("level 100", "level 0") + ";machine 1 0;slot 0 9 9 0"
                + ";machine 2 0;slot 0 9 9 0;rule visits > 0");
        is(32, y.routeLength(), 0);
        y.changeMix(1, 0, 0, 0);
        is(33, route(y), "1");
        y.advance(1);
        is(33, route(y), "1");
    }

    private static void improvedRoutes() {
        // By number: 1 goes in front of 0 (as good as behind it), 2 in front of both, and 3 is on the way back.
        VendingRoutes x = withLines(places(10, 0, 10, 10, 0, 10, 5, 0));
        is(33, route(x), "2103");
        is(34, x.routeMinutes(), 40);
        // 3 at (1,5) is nowhere cheaper than in front: [3, 1, 2, 0] takes 6 + 2 + 6 + 6 + 6 minutes.
        VendingRoutes y = withLines(places(6, 0, 0, 6, 6, 6, 1, 5));
        is(34, y.routeMinutes(), 26);
        is(33, route(y), "3120");
        // [2, 1, 3, 0] takes 34 minutes; reversing the places 0 to 2 alone makes them less.
        VendingRoutes z = withLines(places(0, 3, 9, 5, 4, 7, 6, 2));
        is(34, z.routeMinutes(), 32);
        is(33, route(z), "3120");
        // [3, 4, 1, 2, 0] takes 40 minutes. Places 2 to 3 come before 2 to 4, which would save more at once:
        // [3, 4, 2, 1, 0] takes 36, and then places 3 to 4 are reversed.
        VendingRoutes smallestEnd = withLines(places(8, 0, 4, 0, 5, 2, 0, 5, 7, 7));
        is(34, smallestEnd.routeMinutes(), 34);
        is(33, route(smallestEnd), "34201");
        // [1, 3, 2, 0, 4] takes 36 minutes. Places 1 to 3 come before 2 to 3, which would save as much.
        VendingRoutes smallestStart = withLines(places(1, 7, 0, 3, 8, 8, 2, 5, 3, 1));
        is(34, smallestStart.routeMinutes(), 34);
        is(33, route(smallestStart), "10234");
    }

    /** Machines without a risk, which are due. */
    private static String places(int... positions) {
        StringBuilder lines = new StringBuilder();
        for (int i = 0; i < positions.length; i += 2) {
            lines.append(";machine ").append(positions[i]).append(' ').append(positions[i + 1]).append(";slot 0 1 0 0");
        }
        return lines.toString();
    }

    private static void loads() {
        VendingRoutes x = two();
        is(35, x.plannedLoad(0), 6);
        is(35, x.plannedLoad(1), 0);
        fails(35, INDEX, () -> x.plannedLoad(2));
        fails(35, INDEX, () -> x.plannedLoad(-1));
        x.changeMix(0, 0, 1, 100);
        is(35, x.plannedLoad(0), 0);
        is(35, x.plannedLoad(1), 10);
        x.force(1);
        is(35, x.plannedLoad(1), 10);
        // The estimate is rounded down before: 10 - (int) 8.5.
        VendingRoutes y = withLines(";machine 1 0;slot 0 10 9 50 every 30");
        y.advance(1);
        y.force(0);
        is(19, y.estimateOf(0, 0), 8.5f);
        is(35, y.plannedLoad(0), 2);
        y.advance(1);
        // Two were loaded, one fitted.
        is(41, y.leftover(), 1);
        is(15, y.filledOf(0, 0), 1);
        // Seven units in all, in the order of the route and of the slots.
        VendingRoutes z = Fleets.loaded("fleet 0 0 shift 999 load 7 visit 0 alpha 0 level 50 horizon 1;product 1 1 1"
                + ";product 1 1 1;machine 5 0;slot 1 4 0 0;slot 0 2 0 0;slot 1 4 0 0;machine 9 0;slot 0 9 0 0");
        is(33, route(z), "10");
        is(35, z.plannedLoad(0), 7);
        z.setShift(17);
        is(33, route(z), "0");
        is(35, z.plannedLoad(0), 2);
        is(35, z.plannedLoad(1), 5);
        z.advance(1);
        is(15, z.filledOf(0, 2), 1);
        is(41, z.leftover(), 0);
        // A machine takes what was loaded for another one, if its slot has less than was estimated.
        is(35, Fleets.loaded(Fleets.TWO.replace("load 50", "load 0")).plannedLoad(0), 0);
    }

    private static void ways() {
        VendingRoutes x = Fleets.loaded(Fleets.TWO.replace("fleet 0 0", "fleet 99 1"));
        is(36, x.minutesBetween(0, 1), 11);
        is(36, x.minutesBetween(1, 0), 11);
        is(36, x.minutesBetween(NONE, 0), 99);
        is(36, x.minutesBetween(1, NONE), 90);
        is(36, x.minutesBetween(NONE, NONE), 0);
        is(36, x.minutesBetween(1, 1), 0);
        for (int m : new int[] {-2, 2, MAX, MIN}) {
            fails(36, INDEX, () -> x.minutesBetween(m, 0));
            fails(36, INDEX, () -> x.minutesBetween(NONE, m));
        }
    }

    private static void totals() {
        VendingRoutes x = two();
        x.advance(1);
        // Three units at 100 of the second machine and two of the first, minus six filled at 40.
        is(43, x.profit(), 260L);
        is(37, x.account(), 0);
        is(40, x.minutes(), 19);
        x.advance(3);
        is(37, x.account(), 750);
        is(40, x.minutes(), 38);
        is(41, x.leftover(), 1);
        is(42, x.lostCost(), 0L);
        is(43, x.profit(), 1760L);
        is(38, x.deposited(), 0L);
        is(39, x.shortage(), 0L);
        VendingRoutes y = far();
        y.advance(3);
        is(42, y.lostCost(), 28L);
        is(43, y.profit(), 2L);
        // The units that are returned are paid back at the COST of their own product.
        VendingRoutes z = Fleets.loaded("fleet 0 0 shift 99 load 9 visit 0 alpha 0 level 0 horizon 1;product 9 2 5"
                + ";product 30 11 6;machine 0 0;slot 0 9 7 0");
        z.changeMix(0, 0, 1, 1000);
        z.advance(1);
        is(43, z.profit(), 7 * 2L - 9 * 11L + 9 * 30L - 6L);
        is(42, z.lostCost(), 6L);
    }

    private static String eventOf(VendingRoutes x, int number) {
        return x.event(number, 0) + " " + x.event(number, 1) + " " + x.event(number, 2) + " " + x.event(number, 3);
    }

    private static void log() {
        VendingRoutes x = two();
        is(44, x.events(), 0);
        fails(45, INDEX, () -> x.event(0, 0));
        x.changeMix(0, 1, 0, 0);
        x.changeMix(0, 0, 1, 0);
        x.advance(1);
        is(44, x.events(), 3);
        is(45, eventOf(x, 0), "1 1 0 0");
        is(45, eventOf(x, 1), "1 1 0 1");
        is(45, eventOf(x, 2), "1 0 0 20");
        x.force(1);
        x.advance(1);
        x.deposit(123);
        is(44, x.events(), 5);
        is(45, eventOf(x, 3), "2 0 1 3");
        is(45, eventOf(x, 4), "2 2 123 300");
        fails(45, INDEX, () -> x.event(5, 0));
        fails(45, INDEX, () -> x.event(-1, 9));
        fails(45, ARGUMENT, () -> x.event(4, 4));
        fails(45, ARGUMENT, () -> x.event(4, -1));
        fails(45, ARGUMENT, () -> x.event(0, MAX));
        x.undo();
        is(44, x.events(), 4);

        // Every day both machines are visited: the 301st event is not kept.
        VendingRoutes y = withLines(";machine 0 0;machine 1 0;rule days > 0");
        y.advance(100);
        y.advance(49);
        is(44, y.events(), 298);
        y.deposit(7);
        y.advance(1);
        is(44, y.events(), 300);
        is(45, eventOf(y, 298), "149 2 7 0");
        is(45, eventOf(y, 299), "150 0 1 0");
        y.deposit(8);
        y.advance(50);
        is(44, y.events(), 300);
        is(45, eventOf(y, 299), "150 0 1 0");
        is(38, y.deposited(), 15L);
    }

    private static String reportOf(VendingRoutes x) {
        StringBuilder text = new StringBuilder();
        int length = x.report();
        for (int i = 0; i < length; i++) {
            text.append((char) x.reportByte(i));
        }
        is(47, x.reportByte(length - 1), (int) text.charAt(length - 1));
        fails(47, INDEX, () -> x.reportByte(length));
        fails(47, INDEX, () -> x.reportByte(-1));
        return text.toString();
    }

    private static void reportText() {
        VendingRoutes x = two();
        fails(47, INDEX, () -> x.reportByte(0));
        is(46, reportOf(x), "0:4/10,10/10;1:20/20");
        x.advance(1);
        is(47, x.reportByte(2), (int) '4');
        is(46, reportOf(x), "0:8/10,10/10;1:17/20");
        is(46, x.report(), 20);
        is(46, reportOf(withLines(";machine 0 0;machine 1 1;slot 0 9 0 0")), "0:;1:0/9");
        is(46, reportOf(withLines(";machine 0 0")), "0:");
        // The text stays when another fleet comes.
        Fleets.write(x, Fleets.FAR);
        x.load(Fleets.FAR.length());
        is(47, x.reportByte(19), (int) '0');
        is(46, x.report(), 6);
        fails(47, INDEX, () -> x.reportByte(6));
        StringBuilder full = new StringBuilder("fleet 0 0 shift 1 load 0 visit 0 alpha 0 level 0 horizon 1"
                + ";product 1 0 0");
        for (int m = 0; m < 8; m++) {
            full.append(";machine 9 9").append(";slot 0 99 99 0".repeat(5));
        }
        is(46, Fleets.loaded(full.toString()).report(), 8 * 31 + 7);
    }

    private static void whatIf() {
        VendingRoutes x = far();
        is(48, x.lostIn(1), 0);
        is(48, x.lostIn(3), 4);
        is(50, x.firstLoss(100), 2);
        is(50, x.firstLoss(2), 2);
        is(50, x.firstLoss(1), NONE);
        is(49, x.visitsIn(100), 0);
        is(7, x.day(), 0);
        is(13, x.stockOf(0, 0), 3);
        x.advance(3);
        // Day 4 demands 3 units and day 5 demands 2.
        is(48, x.lostIn(2), 5);
        is(50, x.firstLoss(5), 1);

        VendingRoutes y = two();
        is(49, y.visitsIn(1), 1);
        is(49, y.visitsIn(4), 2);
        is(49, y.visitsIn(5), 3);
        is(48, y.lostIn(5), 0);
        is(44, y.events(), 0);
        y.advance(1);
        is(49, y.visitsIn(4), 2);
        y.advance(100);
        for (int i = 0; i < 18; i++) {
            y.advance(100);
        }
        is(7, y.day(), 1901);
        y.lostIn(99);
        for (int n : new int[] {0, -1, 100, 101, MAX, MIN, MAX - 1900}) {
            fails(48, ARGUMENT, () -> y.lostIn(n));
            fails(49, ARGUMENT, () -> y.visitsIn(n));
            fails(50, ARGUMENT, () -> y.firstLoss(n));
        }
        y.advance(40);
        y.bestLevel(59);
        y.bestForce(59);
        y.mixGain(0, 0, 0, 0, 59);
        fails(51, ARGUMENT, () -> y.bestLevel(60));
        fails(52, ARGUMENT, () -> y.bestForce(60));
        fails(53, ARGUMENT, () -> y.mixGain(0, 0, 0, 0, 60));
    }

    private static void bestLevels() {
        // A unit short is lost on day 2; with LEVEL 40 (1.0 of 3 units is 33 in a hundred) it is filled before.
        String text = "fleet 0 0 shift 10 load 5 visit 0 alpha 0 level 0 horizon 1;product 10 1 7"
                + ";machine 1 0;slot 0 3 3 200";
        VendingRoutes x = Fleets.loaded(text);
        is(51, x.bestLevel(2), 40);
        is(51, x.bestLevel(1), 0);
        is(57, x.setLevel(3), 0);
        // No PENALTY: the fewest visits decide, and then the smallest level.
        is(51, Fleets.loaded(text.replace("10 1 7", "10 1 0")).bestLevel(9), 0);
        // Level 20 visits on day 3 only; 0 and 10 visit on the days 4 and 5, 30 visits on the days 3 and 5.
        is(51, Fleets.loaded("fleet 0 0 shift 9 load 6 visit 0 alpha 0 level 0 horizon 1;product 1 1 0"
                + ";machine 0 0;slot 0 5 3 100;slot 0 4 3 100").bestLevel(5), 20);
        // From day 2 on the estimate stays 1 of 1 with a rate of 0; only LEVEL 100 finds out before day 4.
        is(51, Fleets.loaded("fleet 0 0 shift 9 load 9 visit 0 alpha 100 level 0 horizon 1;product 1 1 1"
                + ";machine 0 0 gap 2 9999;slot 0 1 1 50").bestLevel(4), 100);
        for (int n : new int[] {0, -1, 61, MAX, MIN}) {
            fails(51, ARGUMENT, () -> x.bestLevel(n));
        }
        // The levels 0 to 30 lose a unit by day 2, 40 to 90 visit once in two days, and 100 visits on both.
        is(49, x.visitsIn(2), 0);
        x.setLevel(100);
        is(49, x.visitsIn(2), 2);
        x.setLevel(90);
        is(49, x.visitsIn(2), 1);
        is(48, x.lostIn(2), 0);
    }

    private static void bestForces() {
        String head = "fleet 0 0 shift 99 load 99 visit 0 alpha 0 level 0 horizon 1;product 10 1 7;product 10 1 8";
        // On day 1 machine 0 loses 1 unit at 7, machine 1 loses 1 at 8, machine 2 too, if they are not visited.
        VendingRoutes x = Fleets.loaded(head + ";machine 1 0;slot 0 9 1 200;machine 2 0;slot 1 9 1 200"
                + ";machine 3 0;slot 1 9 1 200");
        is(52, x.bestForce(1), 1);
        x.force(1);
        is(52, x.bestForce(1), 2);
        x.force(2);
        is(52, x.bestForce(1), 0);
        x.force(0);
        is(52, x.bestForce(1), NONE);
        is(23, Fleets.loaded(Fleets.FAR).isDue(0), false);
        is(52, Fleets.loaded(Fleets.FAR).bestForce(60), NONE);
        for (int n : new int[] {0, -1, 61, MAX, MIN}) {
            fails(52, ARGUMENT, () -> x.bestForce(n));
        }
        is(27, x.visitsOf(0), 0);
    }

    private static void mixGains() {
        VendingRoutes x = Fleets.loaded("fleet 0 0 shift 99 load 9 visit 0 alpha 0 level 0 horizon 1;product 9 2 5"
                + ";product 30 11 6;machine 0 0;slot 0 9 7 100");
        // With it: 7 * 2 back, 9 * 11 filled, 9 sold at 30, 1 lost at 6; without it one is sold at 9.
        is(53, x.mixGain(0, 0, 1, 1000, 1), 7 * 2L - 9 * 11L + 9 * 30L - 6L - 9L);
        is(53, x.mixGain(0, 0, 0, 100, 1), 7 * 2L - 9 * 2L);
        x.changeMix(0, 0, 1, 1000);
        is(53, x.mixGain(0, 0, 1, 1000, 1), 0L);
        is(18, x.pendingOf(0, 0), 1);
        is(62, x.undoable(), 1);
        fails(53, INDEX, () -> x.mixGain(1, 0, 0, -1, 0));
        fails(53, INDEX, () -> x.mixGain(-1, 0, 0, 0, 1));
        fails(53, INDEX, () -> x.mixGain(0, 1, 0, -1, 0));
        fails(53, INDEX, () -> x.mixGain(0, -1, 0, 0, 1));
        fails(53, INDEX, () -> x.mixGain(0, 0, 2, -1, 0));
        fails(53, INDEX, () -> x.mixGain(0, 0, -1, 0, 1));
        fails(53, ARGUMENT, () -> x.mixGain(0, 0, 0, -1, 1));
        fails(53, ARGUMENT, () -> x.mixGain(0, 0, 0, 2001, 1));
        fails(53, ARGUMENT, () -> x.mixGain(0, 0, 0, 0, 0));
        fails(53, ARGUMENT, () -> x.mixGain(0, 0, 0, 0, 61));
        x.mixGain(0, 0, 0, 2000, 60);
    }

    private static void advancing() {
        VendingRoutes x = far();
        is(54, x.advance(3), 4);
        is(54, x.advance(2), 5);
        is(54, x.day(), 5);
        is(54, x.undo(), 1);
        is(54, x.day(), 3);
        for (int n : new int[] {0, -1, 101, MAX, MIN, MAX - 1}) {
            fails(54, ARGUMENT, () -> x.advance(n));
        }
        is(54, x.undoable(), 1);
        for (int i = 0; i < 19; i++) {
            x.advance(100);
        }
        fails(54, ARGUMENT, () -> x.advance(98));
        x.advance(97);
        is(54, x.day(), 2000);
        fails(54, ARGUMENT, () -> x.advance(1));
        is(32, x.routeLength(), 0);
        is(23, x.isDue(0), true);
        // Demand is what comes together over the days: 2.5 units a day.
        is(54, x.soldOf(0, 0) + x.lostOf(0, 0), 5000);
        // Half a unit a day, and a new RATE from day 2 on: 1 on day 2, 1 on day 3.
        VendingRoutes y = withLines(";machine 0 0;slot 0 99 99 50");
        y.advance(1);
        is(54, y.soldOf(0, 0), 0);
        y.changeMix(0, 0, 0, 149);
        y.advance(1);
        is(54, y.soldOf(0, 0), 1);
        y.advance(1);
        is(54, y.soldOf(0, 0), 3);
    }

    private static void forcing() {
        VendingRoutes x = two();
        is(55, x.force(1), true);
        is(55, x.force(1), false);
        is(62, x.undoable(), 2);
        x.undo();
        is(55, x.isDue(1), true);
        x.undo();
        is(55, x.isDue(1), false);
        x.force(1);
        x.advance(1);
        is(55, x.visitsOf(1), 1);
        is(55, x.isDue(1), false);
        is(55, x.force(1), true);
        fails(55, INDEX, () -> x.force(2));
        fails(55, INDEX, () -> x.force(-1));
        // A machine that does not get into the route is not forced any more either.
        VendingRoutes y = far();
        y.force(0);
        y.advance(1);
        is(55, y.visitsOf(0), 0);
        is(55, y.isDue(0), false);
    }

    private static void mixChanges() {
        VendingRoutes x = two();
        is(56, x.changeMix(1, 0, 1, 0), NONE);
        is(56, x.changeMix(1, 0, 0, 2000), 1);
        is(56, x.changeMix(1, 0, 0, 500), 0);
        is(62, x.undoable(), 3);
        x.advance(1);
        is(56, x.pendingOf(1, 0), NONE);
        is(56, x.returnedOf(1, 0), 20);
        is(56, x.soldOf(1, 0), 5);
        is(56, x.rateOf(1, 0), 5f);
        fails(56, INDEX, () -> x.changeMix(2, 0, 0, -1));
        fails(56, INDEX, () -> x.changeMix(-1, 0, 0, 0));
        fails(56, INDEX, () -> x.changeMix(0, 2, 0, -1));
        fails(56, INDEX, () -> x.changeMix(0, -1, 0, 0));
        fails(56, INDEX, () -> x.changeMix(0, 0, 2, -1));
        fails(56, INDEX, () -> x.changeMix(0, 0, -1, 0));
        fails(56, ARGUMENT, () -> x.changeMix(0, 0, 0, -1));
        fails(56, ARGUMENT, () -> x.changeMix(0, 0, 0, 2001));
        is(62, x.undoable(), 4);
        // Not enough units are loaded: the new product has what there is, and all of the old one is gone.
        VendingRoutes y = Fleets.loaded(Fleets.TWO.replace("load 50", "load 3"));
        y.changeMix(0, 1, 0, 0);
        y.setLevel(0);
        y.advance(1);
        is(56, y.stockOf(0, 0), 5);
        is(56, y.stockOf(0, 1), 0);
    }

    private static void settings() {
        VendingRoutes x = two();
        is(57, x.setLevel(0), 50);
        is(57, x.setLevel(100), 0);
        is(57, x.setLevel(100), 100);
        fails(57, ARGUMENT, () -> x.setLevel(-1));
        fails(57, ARGUMENT, () -> x.setLevel(101));
        is(58, x.setShift(999), 100);
        is(58, x.setShift(1), 999);
        fails(58, ARGUMENT, () -> x.setShift(0));
        fails(58, ARGUMENT, () -> x.setShift(1000));
        is(58, x.routeLength(), 0);
        is(62, x.undoable(), 5);
        is(59, x.setGap(0, 1, 0), false);
        is(59, x.setGap(0, 9999, 0), true);
        is(59, x.setGap(0, 0, 9999), true);
        is(59, x.reports(0, 0, 7), false);
        is(59, x.setGap(0, 0, 9998), true);
        is(59, x.setGap(0, 1, 9998), true);
        is(59, x.setGap(1, 2, 3), false);
        is(59, x.setGap(0, 7, 6), true);
        is(59, x.reports(0, 0, 7), true);
        is(62, x.undoable(), 6);
        fails(59, INDEX, () -> x.setGap(2, -1, 0));
        fails(59, INDEX, () -> x.setGap(-1, 0, 0));
        fails(59, ARGUMENT, () -> x.setGap(0, -1, 0));
        fails(59, ARGUMENT, () -> x.setGap(0, 10000, 0));
        fails(59, ARGUMENT, () -> x.setGap(0, 0, -1));
        fails(59, ARGUMENT, () -> x.setGap(0, 0, 10000));
        x.undo();
        x.undo();
        x.undo();
        is(59, x.setGap(0, 0, 9998), false);
    }

    private static void deposits() {
        VendingRoutes x = two();
        x.advance(4);
        is(60, x.deposit(700), 50);
        is(37, x.account(), 0);
        is(38, x.deposited(), 700L);
        is(39, x.shortage(), 50L);
        for (int i = 1; i <= 5; i++) {
            is(60, x.deposit(1000000000), -1000000000);
        }
        is(38, x.deposited(), 5000000700L);
        is(39, x.shortage(), -4999999950L);
        is(60, x.deposit(0), 0);
        fails(60, ARGUMENT, () -> x.deposit(-1));
        fails(60, ARGUMENT, () -> x.deposit(1000000001));
        is(60, x.undo(), 5);
        is(43, x.profit(), 1760L);
    }

    private static void undoing() {
        VendingRoutes x = two();
        fails(61, STATE, x::undo);
        is(62, x.undoable(), 0);
        x.setLevel(10);
        for (int level = 20; level <= 70; level += 10) {
            x.setLevel(level);
        }
        is(62, x.undoable(), 6);
        for (int left = 5; left >= 0; left--) {
            is(61, x.undo(), left);
            is(62, x.undoable(), left);
        }
        fails(61, STATE, x::undo);
        is(61, x.setLevel(0), 10);

        String before = reportOf(x);
        x.changeMix(0, 0, 1, 900);
        x.force(1);
        x.setShift(900);
        x.setGap(1, 5, 6);
        x.advance(30);
        x.deposit(5);
        is(61, x.undo(), 5);
        is(61, x.day(), 30);
        is(61, x.deposited(), 0L);
        is(61, x.undo(), 4);
        is(61, x.day(), 0);
        is(61, reportOf(x), before);
        is(61, x.events(), 0);
        is(61, x.minutes(), 0);
        is(61, x.profit(), 0L);
        is(61, x.undo(), 3);
        is(61, x.reports(1, 0, 5), true);
        is(61, x.undo(), 2);
        is(61, x.setShift(100), 100);
        is(61, x.undo(), 2);
        is(61, x.undo(), 1);
        is(61, x.isDue(1), false);
        is(61, x.undo(), 0);
        is(61, x.pendingOf(0, 0), NONE);
    }

    private static void saving() {
        VendingRoutes x = two();
        fails(64, STATE, () -> x.restore(0));
        x.advance(4);
        is(63, x.save(0), 4);
        is(62, x.undoable(), 1);
        x.advance(6);
        is(63, x.save(1), 10);
        String tenth = reportOf(x);
        long profit = x.profit();
        x.setLevel(0);
        x.advance(9);
        is(64, x.restore(1), 10);
        is(64, x.undoable(), 0);
        fails(64, STATE, x::undo);
        is(64, reportOf(x), tenth);
        is(64, x.profit(), profit);
        is(64, x.setLevel(7), 50);
        x.advance(1);
        is(64, x.restore(1), 10);
        is(64, x.setLevel(7), 50);
        is(64, x.restore(0), 4);
        is(64, x.profit(), 1760L);
        is(64, x.events(), 2);
        x.advance(1);
        is(63, x.save(0), 5);
        x.advance(1);
        x.undo();
        x.undo();
        is(64, x.restore(0), 5);
        fails(63, INDEX, () -> x.save(2));
        fails(63, INDEX, () -> x.save(-1));
        fails(64, INDEX, () -> x.restore(2));
        fails(64, INDEX, () -> x.restore(-1));
    }

    /** As many machines, slots, products and rules as there may be, all in one place, with 21 units to fill each. */
    private static void fullFleet() {
        StringBuilder text = new StringBuilder("fleet 0 0 shift 999 load 9999 visit 1 alpha 50 level 80 horizon 2");
        text.append(";product 2 1 3".repeat(6));
        for (int m = 0; m < 8; m++) {
            text.append(";machine 1 1");
            for (int s = 0; s < 5; s++) {
                text.append(";slot ").append((m + s) % 6).append(" 99 78 2000");
            }
        }
        text.append(";rule empty = 5;rule days > 3;rule cash > 98;rule visits > 9999");
        VendingRoutes x = Fleets.loaded(text.toString());
        is(9, x.products(), 6);
        is(10, x.rules(), 4);
        is(33, route(x), "76543210");
        is(34, x.routeMinutes(), 12);
        is(22, x.risk(7), 0f);
        is(24, x.isRuleMet(0, 7), false);
        is(29, x.lowestSlot(39), 74);
        fails(29, INDEX, () -> x.lowestSlot(40));
        fails(31, INDEX, () -> x.worst(8));
        // Of 40 slots, product 3 has those with m + s = 3 (four), 9 (three: 5 4, 6 3, 7 2).
        is(30, x.stockOfProduct(3), 7 * 78);
        is(35, x.plannedLoad(3), 7 * 21);
        is(31, x.worst(7), 7);
        is(25, x.daysLeft(7), 4);
        is(46, x.report(), 8 * 31 + 7);
        is(49, x.visitsIn(1), 8);
        is(52, x.bestForce(1), NONE);
        is(54, x.advance(1), 0);
        is(13, x.stockOf(7, 4), 79);
        is(26, x.cashIn(7), 200);
        is(43, x.profit(), 40 * (20 * 2L - 21));
        is(44, x.events(), 8);
        is(45, eventOf(x, 7), "1 0 0 105");
        is(36, x.minutesBetween(7, NONE), 2);
    }

    /** Numbers that are all different from those at first. */
    private static VendingRoutes busy() {
        VendingRoutes x = Fleets.loaded("fleet 0 0 shift 50 load 17 visit 3 alpha 30 level 30 horizon 2"
                + ";product 100 40 30;product 150 60 20;machine 3 4 gap 3 4;slot 0 10 4 200;slot 1 10 10 450 every 2"
                + ";machine 10 0 gap 2 3;slot 0 20 20 700;machine 90 0;slot 0 1 0 300 every 4");
        x.changeMix(0, 1, 0, 330);
        x.advance(5);
        x.deposit(333);
        x.force(1);
        x.changeMix(1, 0, 1, 250);
        x.advance(1);
        return x;
    }

    private static String everything(VendingRoutes x) {
        StringBuilder all = new StringBuilder();
        all.append(x.day()).append(' ').append(x.account()).append(' ').append(x.deposited()).append(' ')
                .append(x.shortage()).append(' ').append(x.minutes()).append(' ').append(x.leftover()).append(' ')
                .append(x.lostCost()).append(' ').append(x.profit()).append(' ').append(route(x)).append(' ')
                .append(x.routeMinutes()).append(' ').append(x.lostIn(9)).append(' ').append(x.visitsIn(9));
        for (int m = 0; m < x.machines(); m++) {
            all.append('\n').append(x.cashIn(m)).append(' ').append(x.visitsOf(m)).append(' ').append(x.lastVisit(m))
                    .append(' ').append(x.isDue(m)).append(' ').append(x.risk(m)).append(' ').append(x.daysLeft(m));
            for (int d = 1; d <= 10; d++) {
                all.append(x.reports(m, 0, d) ? '+' : '-');
            }
            for (int s = 0; s < x.slots(m); s++) {
                all.append('\n').append(x.productOf(m, s)).append(' ').append(x.stockOf(m, s)).append(' ')
                        .append(x.soldOf(m, s)).append(' ').append(x.filledOf(m, s)).append(' ')
                        .append(x.returnedOf(m, s)).append(' ').append(x.lostOf(m, s)).append(' ')
                        .append(x.pendingOf(m, s)).append(' ').append(x.estimateOf(m, s)).append(' ')
                        .append(x.rateOf(m, s));
            }
        }
        for (int i = 0; i < x.events(); i++) {
            all.append('\n').append(eventOf(x, i));
        }
        return all.toString();
    }

    /** Each time on a new object, since one is used for at most 512 calls. */
    private static void everythingComesBack() {
        String before = everything(busy());
        VendingRoutes advanced = busy();
        advanced.advance(13);
        String later = everything(advanced);
        is(61, later.equals(before), false);
        // What follows is the same too: nothing that is not told was lost.
        for (int days : new int[] {0, 13}) {
            String due = days == 0 ? before : later;
            VendingRoutes undone = busy();
            undone.advance(13);
            undone.undo();
            VendingRoutes restored = busy();
            changeEverything(restored);
            restored.restore(1);
            VendingRoutes asked = busy();
            asked.lostIn(100);
            asked.visitsIn(40);
            asked.firstLoss(100);
            asked.bestLevel(50);
            asked.bestForce(30);
            asked.mixGain(0, 0, 1, 5, 20);
            for (VendingRoutes x : new VendingRoutes[] {undone, restored, asked}) {
                if (days > 0) {
                    x.advance(days);
                }
                is(x == undone ? 61 : x == restored ? 64 : 48, everything(x), due);
            }
        }
    }

    private static void changeEverything(VendingRoutes x) {
        x.save(1);
        x.deposit(12);
        x.changeMix(0, 0, 1, 999);
        x.setLevel(99);
        x.setShift(1);
        x.setGap(0, 1, 99);
        x.force(2);
        x.advance(20);
    }

    private static void nothingIsLeftOfAnEarlierFleet() {
        VendingRoutes x = busy();
        x.force(0);
        x.changeMix(0, 0, 1, 999);
        x.setGap(0, 1, 5);
        everything(x);
        Fleets.write(x, Fleets.TWO);
        x.load(Fleets.TWO.length());
        is(3, everything(x), everything(two()));
        x.advance(9);
        VendingRoutes y = two();
        y.advance(9);
        is(3, everything(x), everything(y));
        // A wrong text does not touch the fleet, its rules or its products, however far it is read.
        VendingRoutes z = Fleets.loaded(Fleets.TWO + ";rule weekday = 3");
        VendingRoutes same = Fleets.loaded(Fleets.TWO + ";rule weekday = 3");
        for (int i = 0; i < 2; i++) {
            String wrongText = Fleets.HEAD.replace("0 0", "50 60") + ";product 1 2 3;product 4 5 6;machine 9 9"
                    + ";slot 1 9 3 77;rule days > 0 or days < 1;rule days = 0;rule x";
            Fleets.write(z, wrongText);
            fails(3, ARGUMENT, () -> z.load(wrongText.length()));
            is(3, everything(z), everything(same));
            is(3, z.products() + " " + z.rules(), "2 1");
            is(3, z.minutesBetween(NONE, 1), 10);
            z.advance(1);
            same.advance(1);
        }
        Fleets.write(z, Fleets.FAR + ";rule days = 1");
        z.load(Fleets.FAR.length() + 14);
        is(3, z.products() + " " + z.rules(), "1 1");
        is(3, everything(z), everything(Fleets.loaded(Fleets.FAR + ";rule days = 1")));
        // A text with as many tests as it can hold, again and again.
        StringBuilder full = new StringBuilder(Fleets.HEAD + ";machine 0 0;rule days=0");
        while (full.length() < 1180) {
            full.append("or days=0");
        }
        full.append("or days=1");
        VendingRoutes again = new VendingRoutes();
        for (int i = 0; i < 5; i++) {
            Fleets.write(again, full.toString());
            is(3, again.load(full.length()), 1);
            is(24, again.isRuleMet(0, 0), true);
        }
    }

    /** Where there is no fleet, that is told before anything else, but for restore and the texts. */
    private static void withoutFleet() {
        VendingRoutes x = new VendingRoutes();
        Fleets.write(x, "fleet");
        fails(3, ARGUMENT, () -> x.load(5));
        long[] zeros = {x.day(), x.machines(), x.products(), x.rules(), x.account(), x.deposited(), x.shortage(),
            x.minutes(), x.leftover(), x.lostCost(), x.profit(), x.events(), x.undoable()};
        int[] promises = {7, 8, 9, 10, 37, 38, 39, 40, 41, 42, 43, 44, 62};
        for (int i = 0; i < zeros.length; i++) {
            is(promises[i], zeros[i], 0L);
        }
        Runnable[] calls = {() -> x.slots(-1), () -> x.productOf(-1, -1), () -> x.stockOf(-1, -1),
            () -> x.soldOf(-1, -1), () -> x.filledOf(-1, -1), () -> x.returnedOf(-1, -1), () -> x.lostOf(-1, -1),
            () -> x.pendingOf(-1, -1), () -> x.estimateOf(-1, -1), () -> x.rateOf(-1, -1),
            () -> x.reports(-1, -1, -1), () -> x.risk(-1), () -> x.isDue(-1), () -> x.isRuleMet(-1, -1),
            () -> x.daysLeft(-1), () -> x.cashIn(-1), () -> x.visitsOf(-1), () -> x.lastVisit(-1),
            () -> x.lowestSlot(-1), () -> x.stockOfProduct(-1), () -> x.worst(-1), () -> x.routeLength(),
            () -> x.routeAt(-1), () -> x.routeMinutes(), () -> x.plannedLoad(-1), () -> x.minutesBetween(-2, -2)};
        for (int i = 0; i < calls.length; i++) {
            fails(11 + i, STATE, calls[i]);
        }
        fails(45, STATE, () -> x.event(-1, -1));
        fails(46, STATE, () -> x.report());
        fails(47, INDEX, () -> x.reportByte(0));
        Runnable[] later = {() -> x.lostIn(0), () -> x.visitsIn(0), () -> x.firstLoss(0), () -> x.bestLevel(0),
            () -> x.bestForce(0), () -> x.mixGain(-1, -1, -1, -1, 0), () -> x.advance(0), () -> x.force(-1),
            () -> x.changeMix(-1, -1, -1, -1), () -> x.setLevel(-1), () -> x.setShift(-1),
            () -> x.setGap(-1, -1, -1), () -> x.deposit(-1), () -> x.undo()};
        for (int i = 0; i < later.length; i++) {
            fails(48 + i, STATE, later[i]);
        }
        fails(63, STATE, () -> x.save(-1));
        fails(64, INDEX, () -> x.restore(-1));
        fails(64, STATE, () -> x.restore(1));
    }
}
