import java.util.ArrayList;
import java.util.List;
import java.util.function.BiFunction;
import java.util.function.Function;
import java.util.function.Supplier;

/** Section 7, and the sentences of the promises 1 to 36: the input, the fleet, and the planned route. */
final class CallChecks {
    static final Class<?> STATE = IllegalStateException.class;
    static final Class<?> INDEX = IndexOutOfBoundsException.class;
    static final Class<?> ARGUMENT = IllegalArgumentException.class;
    static final int MIN = Integer.MIN_VALUE;
    static final int MAX = Integer.MAX_VALUE;
    private static final int NONE = VendingRoutes.NONE;

    /** Without a fleet. */
    static final Supplier<VendingRoutes> FRESH = VendingRoutes::new;
    /** Without a fleet too, for its text was wrong. */
    static final Supplier<VendingRoutes> REFUSED = CallChecks::refused;
    /** In the midst of its days, with five changes to undo, a saved state, a report, and bytes in the buffer. */
    static final Supplier<VendingRoutes> BUSY = CallChecks::busy;
    /** The same with six changes to undo. */
    static final Supplier<VendingRoutes> SIX = CallChecks::six;
    /** With units that were lost, and sold since they were read last. */
    static final Supplier<VendingRoutes> LOSING = CallChecks::losing;
    static final Supplier<VendingRoutes> DAY_1999 = () -> onDay(1999);
    static final Supplier<VendingRoutes> DAY_2000 = () -> onDay(2000);

    private final Sentences s;

    CallChecks(Sentences sentences) {
        s = sentences;
    }

    void all() {
        exceptions();
        changes();
        noFleet();
        noSuchMachine();
        noSuchSlot();
        input();
        loading();
        errors();
        counts();
        slots();
        estimates();
        machines();
        rankings();
        routes();
    }

    // ---- objects

    static VendingRoutes refused() {
        VendingRoutes x = new VendingRoutes();
        loadWrong(x, Fleets.TWO + ";!");
        x.append(0x666c6565, 0x74203020, 0x30207368, 0x69667420, 0x31303020);
        return x;
    }

    static VendingRoutes busy() {
        VendingRoutes x = Fleets.loaded(Fleets.TWO + ";rule days > 4");
        x.report();
        x.advance(4);
        x.save(0);
        x.deposit(700);
        x.changeMix(0, 1, 0, 330);
        x.force(1);
        x.setGap(1, 6, 8);
        loadWrong(x, "fleet 100");
        x.append(0x666c6565, 0x74203020, 0x30207368, 0x69667420, 0x31303020);
        return x;
    }

    static VendingRoutes six() {
        VendingRoutes x = busy();
        x.advance(2);
        return x;
    }

    static VendingRoutes losing() {
        VendingRoutes x = Fleets.loaded(Fleets.head(30, 12, 2, 40, 20, 3) + ";product 100 30 7;product 55 20 9"
                + ";machine 3 4 gap 4 6;slot 0 9 6 370 every 5;slot 1 12 12 410 every 4"
                + ";machine 50 9;slot 1 5 3 210 every 7;rule days > 5 and empty > 0");
        x.advance(6);
        x.save(0);
        x.advance(1);
        x.changeMix(0, 1, 0, 333);
        x.setLevel(35);
        return x;
    }

    /** As many lines of each kind as there may be; machine m lacks 1 + m units in each of its slots on day 1. */
    static String fullText() {
        StringBuilder text = new StringBuilder(Fleets.head(40, 99, 1, 50, 0, 2));
        text.append(";product 9 3 5".repeat(6));
        for (int m = 0; m < 8; m++) {
            text.append(";machine ").append(m).append(" 9 gap 2 2");
            for (int slot = 0; slot < 5; slot++) {
                text.append(";slot ").append(slot + 1).append(" 9 3 ").append(400 + 100 * m);
            }
            text.append(" every 3");
        }
        return text + ";rule days > 3".repeat(3) + ";rule empty = 5";
    }

    static VendingRoutes onDay(int day) {
        VendingRoutes x = Fleets.loaded(Fleets.TWO);
        for (int left = day; left > 0; left -= 100) {
            x.advance(Math.min(left, 100));
        }
        return x;
    }

    /** Loads another fleet; what is in the buffer goes first. */
    private static void loadOther(VendingRoutes x, String text) {
        loadWrong(x, "");
        Fleets.write(x, text);
        x.load(text.length());
    }

    private static void loadWrong(VendingRoutes x, String text) {
        Fleets.write(x, text);
        try {
            x.load(text.length());
            throw new AssertionError("a wrong text was loaded");
        } catch (IllegalArgumentException e) {
            return;
        }
    }

    private static VendingRoutes fleet(String lines) {
        return Fleets.loaded(Fleets.HEAD + lines);
    }

    static String reportOf(VendingRoutes x) {
        StringBuilder text = new StringBuilder();
        int length = x.report();
        for (int i = 0; i < length; i++) {
            text.append((char) x.reportByte(i));
        }
        return text.toString();
    }

    /** The report, and the slots by their ranks. */
    private static String stocks(VendingRoutes x) {
        StringBuilder text = new StringBuilder(reportOf(x));
        int rank = 0;
        for (int m = 0; m < x.machines(); m++) {
            for (int slot = 0; slot < x.slots(m); slot++) {
                text.append(' ').append(x.lowestSlot(rank));
                rank++;
            }
        }
        return text.toString();
    }

    // ---- section 7

    private void exceptions() {
        s.of("section 7", "If several exceptions apply, the one that is listed first");
        // Each of these calls is wrong in two ways or in more.
        for (Function<VendingRoutes, Object> call : List.<Function<VendingRoutes, Object>>of(
                x -> x.reports(2, 0, 0), x -> x.reports(0, 2, 2001), x -> x.reports(-1, -1, -1),
                x -> x.event(9, 4), x -> x.event(-1, -1), x -> x.mixGain(2, 0, 0, -1, 0),
                x -> x.mixGain(0, 2, 0, 2001, 61), x -> x.mixGain(0, 0, 2, 0, 0), x -> x.mixGain(0, 0, -1, -1, 1),
                x -> x.changeMix(2, 0, 0, -1), x -> x.changeMix(0, 2, 0, 2001), x -> x.changeMix(0, 0, 2, -1),
                x -> x.setGap(2, -1, 0), x -> x.setGap(-1, 0, 10000))) {
            s.refuses(BUSY, INDEX, call);
            s.refuses(FRESH, STATE, call);
        }
        s.refuses(DAY_2000, INDEX, x -> x.mixGain(0, 0, 2, 0, 1));
        s.refuses(FRESH, INDEX, x -> x.restore(2));
        s.refuses(BUSY, INDEX, x -> x.restore(-1));
        s.refuses(FRESH, STATE, x -> x.save(2));
        s.refuses(FRESH, INDEX, x -> x.load(1));
        s.refuses(REFUSED, INDEX, x -> x.load(21));
        s.refuses(FRESH, STATE, x -> x.lostIn(0));
        s.refuses(FRESH, STATE, x -> x.setLevel(101));
        s.refuses(FRESH, STATE, x -> x.deposit(-1));

        s.of("section 7", "A call that throws an exception changes nothing, except that load empties");
        for (Function<VendingRoutes, Object> call : List.<Function<VendingRoutes, Object>>of(
                x -> x.advance(0), x -> x.advance(101), x -> x.setLevel(-1), x -> x.setShift(0), x -> x.deposit(-1),
                x -> x.setGap(0, 0, 10000), x -> x.changeMix(0, 0, 0, 2001), x -> x.lostIn(101), x -> x.bestLevel(61),
                x -> x.event(0, 4), x -> x.reports(0, 0, 0))) {
            s.refuses(BUSY, ARGUMENT, call);
            s.refuses(SIX, ARGUMENT, call);
        }
        s.refuses(DAY_2000, ARGUMENT, x -> x.advance(1));
        s.refuses(DAY_1999, ARGUMENT, x -> x.advance(2));
        s.refuses(BUSY, INDEX, x -> x.force(2));
        s.refuses(BUSY, INDEX, x -> x.save(2));
        s.refuses(BUSY, STATE, x -> x.restore(1));
        s.refuses(FRESH, STATE, x -> x.undo());
        s.refuses(REFUSED, STATE, x -> x.undo());
        s.refuses(BUSY, INDEX, x -> x.reportByte(100));
        VendingRoutes x = busy();
        s.is(x.buffered() + " " + x.parseError() + " " + x.errorPosition(), "20 2 6");
        s.fails(ARGUMENT, () -> x.load(7));
        s.is(x.buffered() + " " + x.parseError() + " " + x.errorPosition(), "0 1 7");
        s.is(Snapshot.ofFleet(x), Snapshot.ofFleet(busy()));
    }

    /** Each change, on an object that is busy, and what it answers there. */
    private static List<Function<VendingRoutes, Object>> everyChange() {
        return List.of(x -> x.advance(1), x -> x.advance(40), x -> x.force(0), x -> x.force(1),
                x -> x.changeMix(0, 0, 1, 5), x -> x.changeMix(0, 1, 1, 2000), x -> x.setLevel(0),
                x -> x.setLevel(50), x -> x.setShift(1), x -> x.setGap(0, 0, 9999), x -> x.setGap(1, 6, 8),
                x -> x.deposit(0), x -> x.deposit(1000000000));
    }

    private void changes() {
        s.of("section 7", "The state consists of everything that days and changes alter.");
        for (Supplier<VendingRoutes> maker : List.of(BUSY, LOSING)) {
            String before = Snapshot.of(maker.get());
            VendingRoutes same = maker.get();
            same.save(1);
            same.restore(1);
            String saved = Snapshot.of(same);
            for (Function<VendingRoutes, Object> change : everyChange()) {
                VendingRoutes undone = maker.get();
                change.apply(undone);
                undone.undo();
                s.is(Snapshot.of(undone), before);
                VendingRoutes restored = maker.get();
                restored.save(1);
                change.apply(restored);
                restored.restore(1);
                s.is(Snapshot.of(restored), saved);
            }
        }

        s.of("section 7", "The methods that are documented as changes can be undone, the latest one first.");
        List<Function<VendingRoutes, Object>> six = List.of(x -> x.setLevel(33), x -> x.force(1),
                x -> x.changeMix(0, 1, 0, 77), x -> x.advance(3), x -> x.setGap(0, 2, 9), x -> x.deposit(9));
        for (int left = 5; left >= 0; left--) {
            VendingRoutes undone = Fleets.loaded(Fleets.TWO);
            six.forEach(change -> change.apply(undone));
            for (int i = 5; i >= left; i--) {
                s.is(undone.undo(), i);
            }
            VendingRoutes due = Fleets.loaded(Fleets.TWO);
            six.subList(0, left).forEach(change -> change.apply(due));
            s.is(Snapshot.of(undone), Snapshot.of(due));
        }
        // No changes are: append, load, save, restore, undo, report, and all questions.
        VendingRoutes x = busy();
        x.append(0, 0, 0, 0, 0);
        x.save(1);
        x.report();
        x.bestForce(5);
        s.is(x.undoable(), 5);
        s.is(x.undo(), 4);
        s.is(x.undoable(), 4);

        s.of("section 7", "Only the latest 6 changes since the last successful call of load or restore are kept");
        for (int made : new int[] {0, 1, 5, 6, 7, 8, 20}) {
            VendingRoutes y = Fleets.loaded(Fleets.TWO);
            for (int i = 1; i <= made; i++) {
                y.setLevel(i);
            }
            int kept = Math.min(made, 6);
            s.is(y.undoable(), kept);
            for (int left = kept - 1; left >= 0; left--) {
                s.is(y.undo(), left);
            }
            s.fails(STATE, y::undo);
            s.is(y.setLevel(0), made == kept ? 50 : made - 6);
        }
        VendingRoutes z = busy();
        s.fails(ARGUMENT, () -> z.load(0));
        s.is(z.undoable(), 5);
        s.fails(STATE, () -> z.restore(1));
        s.fails(INDEX, () -> z.restore(2));
        s.is(z.undoable(), 5);
        z.restore(0);
        s.is(z.undoable(), 0);
        s.fails(STATE, z::undo);
        z.force(0);
        z.force(1);
        s.is(z.undo(), 1);
        loadOther(z, Fleets.FAR);
        s.is(z.undoable(), 0);
        s.fails(STATE, z::undo);
        // Taken back to the first of six, and then on with others.
        VendingRoutes again = six();
        for (int i = 0; i < 6; i++) {
            again.undo();
        }
        s.is(again.day(), 0);
        again.setShift(7);
        s.is(again.undoable(), 1);
        s.is(again.undo(), 0);

        s.of("section 7", "A what-if question simulates a copy of the state; it changes nothing.");
        for (Supplier<VendingRoutes> maker : List.of(BUSY, SIX, LOSING)) {
            s.asks(maker, maker.get().advance(30), y -> y.lostIn(30));
            s.asks(maker, ByFace.visits(maker, 30), y -> y.visitsIn(30));
            s.asks(maker, ByFace.firstLoss(maker, 60), y -> y.firstLoss(60));
            s.asks(maker, ByFace.bestLevel(maker, 9), y -> y.bestLevel(9));
            s.asks(maker, ByFace.bestForce(maker, 9), y -> y.bestForce(9));
            s.asks(maker, ByFace.mixGain(maker, 1, 0, 1, 900, 9), y -> y.mixGain(1, 0, 1, 900, 9));
        }
        s.tellsNothing("section 7", "The constants:", "The constructor and the methods follow");
        s.of("section 7", "- `NONE = -1`");
        s.is(VendingRoutes.NONE, -1);
    }

    // ---- what many promises say

    private void noFleet() {
        List<List<Function<VendingRoutes, Object>>> calls = new ArrayList<>();
        for (int promise = 0; promise <= 64; promise++) {
            calls.add(List.of());
        }
        for (int i = 0; i < MACHINE_PROMISES.length; i++) {
            BiFunction<VendingRoutes, Integer, Object> call = MACHINE_CALLS.get(i);
            calls.set(MACHINE_PROMISES[i], List.of(x -> call.apply(x, 0), x -> call.apply(x, -1)));
        }
        for (int i = 0; i < SLOT_CALLS.size(); i++) {
            SlotCall call = SLOT_CALLS.get(i);
            calls.set(12 + i, List.of(x -> call.of(x, 0, 0), x -> call.of(x, -1, 9)));
        }
        calls.set(24, List.of(x -> x.isRuleMet(0, 0), x -> x.isRuleMet(-1, -1)));
        calls.set(29, List.of(x -> x.lowestSlot(0), x -> x.lowestSlot(-1)));
        calls.set(30, List.of(x -> x.stockOfProduct(0), x -> x.stockOfProduct(-1)));
        calls.set(31, List.of(x -> x.worst(0), x -> x.worst(-1)));
        calls.set(32, List.of(x -> x.routeLength()));
        calls.set(33, List.of(x -> x.routeAt(0), x -> x.routeAt(-1)));
        calls.set(34, List.of(x -> x.routeMinutes()));
        calls.set(35, List.of(x -> x.plannedLoad(0), x -> x.plannedLoad(-1)));
        calls.set(36, List.of(x -> x.minutesBetween(NONE, NONE), x -> x.minutesBetween(-2, 0)));
        calls.set(45, List.of(x -> x.event(0, 0), x -> x.event(-1, 4)));
        calls.set(46, List.of(x -> x.report()));
        calls.set(48, List.of(x -> x.lostIn(1), x -> x.lostIn(0)));
        calls.set(49, List.of(x -> x.visitsIn(1), x -> x.visitsIn(101)));
        calls.set(50, List.of(x -> x.firstLoss(1), x -> x.firstLoss(-1)));
        calls.set(51, List.of(x -> x.bestLevel(1), x -> x.bestLevel(61)));
        calls.set(52, List.of(x -> x.bestForce(1), x -> x.bestForce(0)));
        calls.set(53, List.of(x -> x.mixGain(0, 0, 0, 0, 1), x -> x.mixGain(-1, -1, -1, -1, 0)));
        calls.set(54, List.of(x -> x.advance(1), x -> x.advance(0)));
        calls.set(56, List.of(x -> x.changeMix(0, 0, 0, 0), x -> x.changeMix(-1, -1, -1, -1)));
        calls.set(57, List.of(x -> x.setLevel(0), x -> x.setLevel(-1)));
        calls.set(58, List.of(x -> x.setShift(1), x -> x.setShift(0)));
        calls.set(59, List.of(x -> x.setGap(0, 0, 0), x -> x.setGap(-1, -1, -1)));
        calls.set(60, List.of(x -> x.deposit(0), x -> x.deposit(-1)));
        calls.set(63, List.of(x -> x.save(0), x -> x.save(2)));
        for (int promise = 11; promise <= 63; promise++) {
            boolean isQuiet = promise >= 37 && promise <= 44 || promise == 47 || promise >= 61 && promise <= 62;
            if (!isQuiet) {
                s.of("promise " + promise, "Throws `IllegalStateException` if there is no fleet (no text was loaded)");
                for (Function<VendingRoutes, Object> call : calls.get(promise)) {
                    s.refuses(FRESH, STATE, call);
                    s.refuses(REFUSED, STATE, call);
                }
            }
        }
    }

    private static final int[] MACHINE_PROMISES = {11, 22, 23, 25, 26, 27, 28, 55};
    private static final List<BiFunction<VendingRoutes, Integer, Object>> MACHINE_CALLS = List.of(
            VendingRoutes::slots, VendingRoutes::risk, VendingRoutes::isDue, VendingRoutes::daysLeft,
            VendingRoutes::cashIn, VendingRoutes::visitsOf, VendingRoutes::lastVisit, VendingRoutes::force);

    private interface SlotCall {
        Object of(VendingRoutes x, int machine, int slot);
    }

    private static final List<SlotCall> SLOT_CALLS = List.of(VendingRoutes::productOf, VendingRoutes::stockOf,
            VendingRoutes::soldOf, VendingRoutes::filledOf, VendingRoutes::returnedOf, VendingRoutes::lostOf,
            VendingRoutes::pendingOf, VendingRoutes::estimateOf, VendingRoutes::rateOf,
            (x, machine, slot) -> x.reports(machine, slot, 1));

    private void noSuchMachine() {
        for (int i = 0; i < MACHINE_PROMISES.length; i++) {
            String promise = "promise " + MACHINE_PROMISES[i];
            BiFunction<VendingRoutes, Integer, Object> call = MACHINE_CALLS.get(i);
            s.of(promise, "Throws `IndexOutOfBoundsException` if there is no such machine");
            for (int m : new int[] {-1, 2, 3, 8, MAX, MIN}) {
                s.refuses(BUSY, INDEX, x -> call.apply(x, m));
            }
            VendingRoutes eight = fleet(";machine 0 0".repeat(8));
            s.fails(INDEX, () -> call.apply(eight, 8));
            s.fails(INDEX, () -> call.apply(eight, -1));
            // A machine of an earlier fleet, or of a wrong text, is none.
            VendingRoutes one = Fleets.loaded(Fleets.TWO);
            loadOther(one, Fleets.FAR);
            loadWrong(one, Fleets.TWO + ";!");
            s.fails(INDEX, () -> call.apply(one, 1));
            s.of(promise, "- `machine`: number of the machine");
            s.is(call.apply(eight, 0) != null, true);
            s.is(call.apply(eight, 7) != null, true);
            s.is(call.apply(one, 0) != null, true);
        }
    }

    private void noSuchSlot() {
        for (int i = 0; i < SLOT_CALLS.size(); i++) {
            String promise = "promise " + (12 + i);
            SlotCall call = SLOT_CALLS.get(i);
            s.of(promise, "Throws `IndexOutOfBoundsException` if there is no such machine or slot");
            int[][] wrongs = {{2, 0}, {-1, 0}, {8, 0}, {MAX, 0}, {MIN, 0}, {0, 2}, {0, -1}, {0, 5}, {0, MAX}, {0, MIN},
                {1, 1}, {2, 2}, {-1, -1}};
            for (int[] w : wrongs) {
                s.refuses(BUSY, INDEX, x -> call.of(x, w[0], w[1]));
            }
            VendingRoutes five = fleet(";machine 0 0".repeat(7) + ";machine 1 1" + ";slot 0 9 9 0".repeat(5));
            s.fails(INDEX, () -> call.of(five, 7, 5));
            s.fails(INDEX, () -> call.of(five, 8, 0));
            // A machine may be without a slot.
            s.fails(INDEX, () -> call.of(five, 6, 0));
            VendingRoutes one = Fleets.loaded(Fleets.TWO);
            loadOther(one, Fleets.FAR);
            s.fails(INDEX, () -> call.of(one, 0, 1));
            s.of(promise, "- `machine`: number of the machine", "- `slot`: number of the slot");
            s.is(call.of(five, 7, 0) != null, true);
            s.is(call.of(five, 7, 4) != null, true);
            s.is(call.of(one, 0, 0) != null, true);
        }
    }

    // ---- promises 1 to 6

    private void input() {
        s.of("promise 1", "Creates an object without a fleet and with an empty input buffer.");
        VendingRoutes fresh = new VendingRoutes();
        s.is(fresh.machines() + " " + fresh.products() + " " + fresh.rules() + " " + fresh.buffered(), "0 0 0 0");
        s.is(fresh.parseError() + " " + fresh.errorPosition() + " " + fresh.undoable(), "0 -1 0");
        s.fails(STATE, () -> fresh.slots(0));
        s.fails(STATE, () -> fresh.restore(0));
        s.fails(INDEX, () -> fresh.reportByte(0));
        s.fails(INDEX, () -> fresh.load(1));
        s.fails(ARGUMENT, () -> fresh.load(0));

        s.tellsNothing("promise 2", "---- input");
        s.of("promise 2", "Appends twenty bytes to the input buffer");
        // "fleet 7 0 shift 9 lo", "ad 9 visit 0 alpha 0", " level 0 horizon 1;ma", "chine 9 0"
        VendingRoutes x = new VendingRoutes();
        s.is(x.append(0x666c6565, 0x74203720, 0x30207368, 0x69667420, 0x39206c6f), 20);
        s.is(x.append(0x61642039, 0x20766973, 0x69742030, 0x20616c70, 0x68612030), 40);
        s.is(x.append(0x206c6576, 0x656c2030, 0x20686f72, 0x697a6f6e, 0x20313b6d), 60);
        s.is(x.append(0x61636869, 0x6e652039, 0x20332020, 0x20202020, 0x20202020), 80);
        s.is(x.load(80), 1);
        s.is(x.minutesBetween(NONE, 0), 5);
        String[] arguments = {"- `a`: bytes 0 to 3", "- `b`: bytes 4 to 7", "- `c`: bytes 8 to 11",
            "- `d`: bytes 12 to 15", "- `e`: bytes 16 to 19"};
        for (int i = 0; i < 5; i++) {
            s.of("promise 2", arguments[i]);
            for (int k = 0; k < 4; k++) {
                for (int wrong : new int[] {0, 0x7f, 0x80, 0xff, 0xe9}) {
                    int[] words = {0x20202020, 0x20202020, 0x20202020, 0x20202020, 0x20202020};
                    int shift = 24 - 8 * k;
                    words[i] = words[i] & ~(0xff << shift) | wrong << shift;
                    VendingRoutes y = new VendingRoutes();
                    y.append(words[0], words[1], words[2], words[3], words[4]);
                    s.fails(ARGUMENT, () -> y.load(20));
                    s.is(y.parseError() + " " + y.errorPosition(), "1 " + (4 * i + k));
                }
            }
        }
        s.of("promise 2", "Returns the number of bytes in the buffer; NONE if there would be more than 1200");
        VendingRoutes full = new VendingRoutes();
        for (int i = 1; i <= 60; i++) {
            s.is(full.append(0x20202020, 0x20202020, 0x20202020, 0x20202020, 0x20202020), 20 * i);
        }
        s.is(full.append(MAX, MIN, -1, 0, 1), NONE);
        s.is(full.append(0, 0, 0, 0, 0), NONE);
        s.is(full.buffered(), 1200);
        s.fails(INDEX, () -> full.load(1201));
        s.fails(ARGUMENT, () -> full.load(1200));
        s.is(full.parseError() + " " + full.errorPosition(), "1 1200");
        s.is(full.append(MAX, MIN, -1, 0, 1), 20);
        // A full buffer refuses more and changes nothing else.
        Supplier<VendingRoutes> brimful = () -> {
            VendingRoutes y = busy();
            for (int i = 1; i < 60; i++) {
                y.append(0, 0, 0, 0, 0);
            }
            return y;
        };
        s.asks(brimful, NONE, y -> y.append(1, 2, 3, 4, 5));
    }

    private void loading() {
        s.of("promise 3", "Parses the first n bytes of the input buffer and empties the buffer");
        VendingRoutes x = new VendingRoutes();
        Fleets.write(x, Fleets.TWO + ";machine 1 1");
        s.is(x.load(Fleets.TWO.length()), 2);
        s.is(x.buffered(), 0);
        Fleets.write(x, "fleet 100 and so on, with forty bytes");
        s.is(x.buffered(), 40);
        s.fails(ARGUMENT, () -> x.load(9));
        s.is(x.buffered(), 0);
        Fleets.write(x, Fleets.TWO);
        s.fails(ARGUMENT, () -> x.load(0));
        s.is(x.buffered() + " " + x.parseError() + " " + x.errorPosition(), "0 1 0");
        // What was in the buffer before does not come back.
        Fleets.write(x, "fleet 0 0 shift 9 load 9 visit 0 alpha 0 level 0 horizon 1;machine 0 0;machine 1 1");
        s.is(x.load(70), 1);
        Fleets.write(x, "fleet 0 0 shift 9 lo");
        s.fails(INDEX, () -> x.load(21));
        s.fails(ARGUMENT, () -> x.load(20));
        s.is(x.errorPosition(), 18);

        s.of("promise 3", "On success the fleet replaces the previous one");
        VendingRoutes old = six();
        old.save(1);
        loadOther(old, Fleets.FAR);
        s.is(Snapshot.ofFleet(old), Snapshot.ofFleet(Fleets.loaded(Fleets.FAR)));
        VendingRoutes again = six();
        loadOther(again, Fleets.TWO);
        s.is(again.day() + " " + again.undoable() + " " + again.profit() + " " + again.events(), "0 0 0 0");
        s.fails(STATE, again::undo);
        s.fails(STATE, () -> again.restore(0));
        s.fails(STATE, () -> again.restore(1));
        s.is(again.pendingOf(0, 1) + " " + again.setGap(1, 2, 3) + " " + again.isDue(1), "-1 false false");

        // Nothing is left of the fleets before, of what was asked about them, or of a text that was wrong.
        String last = Fleets.TWO + ";rule days > 4";
        String due = Snapshot.ofFleet(Fleets.loaded(last));
        String[] earlier = {fullText(), Fleets.FAR, last + ";rule empty < 9 or cash > 0;rule visits = 5"};
        for (String first : earlier) {
            for (String second : earlier) {
                VendingRoutes y = Fleets.loaded(first);
                y.advance(7);
                y.force(0);
                y.changeMix(0, 0, 0, 5);
                y.lostIn(9);
                loadOther(y, second);
                y.deposit(77);
                y.bestForce(9);
                y.mixGain(0, 0, 0, 9, 9);
                loadWrong(y, first + ";!");
                y.lostIn(9);
                loadOther(y, last);
                s.is(Snapshot.ofFleet(y), due);
            }
        }

        // Nor does it matter how many long rules were read in texts that were wrong.
        VendingRoutes tried = new VendingRoutes();
        String rule = ";rule " + "not ".repeat(9) + "days = 9" + (" or " + "not ".repeat(9) + "days<9").repeat(22);
        for (int i = 0; i < 5; i++) {
            loadWrong(tried, Fleets.HEAD + ";machine 0 0" + rule + " !");
        }
        loadOther(tried, Fleets.HEAD + ";machine 0 0;rule days = 1;rule days = 2;rule days < 2");
        s.is(tried.isRuleMet(0, 0) + " " + tried.isRuleMet(1, 0) + " " + tried.isRuleMet(2, 0), "true false true");

        s.of("promise 3", "- `n`: number of bytes to parse");
        VendingRoutes all = new VendingRoutes();
        Fleets.write(all, Fleets.HEAD + ";machine 0 0");
        s.is(all.load(all.buffered()), 1);

        s.of("promise 3", "Returns the number of machines.");
        for (int machines = 1; machines <= 8; machines++) {
            VendingRoutes y = new VendingRoutes();
            String text = Fleets.HEAD + ";machine 0 0".repeat(machines);
            Fleets.write(y, text);
            s.is(y.load(text.length()), machines);
        }

        s.of("promise 3", "Throws `IndexOutOfBoundsException` if n is negative or greater");
        for (int n : new int[] {-1, 21, 1200, 1201, MAX, MIN}) {
            s.refuses(BUSY, INDEX, y -> y.load(n));
            s.refuses(REFUSED, INDEX, y -> y.load(n));
        }
        for (int n : new int[] {-1, 1, MAX, MIN}) {
            s.refuses(FRESH, INDEX, y -> y.load(n));
        }
        VendingRoutes exact = busy();
        s.fails(ARGUMENT, () -> exact.load(20));
        s.fails(INDEX, () -> exact.load(1));
        s.is(exact.parseError() + " " + exact.errorPosition(), "1 20");

        s.of("promise 3", "Throws `IllegalArgumentException` if the text has an error");
        String fleet = Snapshot.ofFleet(busy());
        String stocks = stocks(busy());
        for (String wrong : new String[] {"", "fleet 100", Fleets.HEAD, Fleets.FAR + ";", Fleets.FAR + " !",
            Fleets.HEAD.replace("0 0", "9 9") + ";product 9 9 9;machine 7 7 gap 5 9;slot 1 9 9 9;rule days = 0;rule x",
            Fleets.HEAD + ";product 1 1 1;machine 1 1;machine 2 2;machine 3 3;slot 0 9 9 9;slot 0 9 9 9999"}) {
            VendingRoutes y = busy();
            loadWrong(y, "");
            Fleets.write(y, wrong);
            s.fails(ARGUMENT, () -> y.load(wrong.length()));
            s.is(stocks(y), stocks);
            s.is(Snapshot.ofFleet(y), fleet);
        }
    }

    private void errors() {
        s.of("promise 4", "Returns the parse error code of the latest call of load");
        VendingRoutes x = new VendingRoutes();
        String deep = Fleets.HEAD + ";rule " + "(".repeat(10) + "days > 0";
        String[] texts = {"!", "fleet 100", Fleets.HEAD + ";slot 0 1 0 0", Fleets.HEAD + ";product 1 1 1".repeat(6),
            Fleets.HEAD, deep};
        int[] positions = {0, 6, Fleets.HEAD.length() + 1, Fleets.HEAD.length() + 5 * 14 + 1, Fleets.HEAD.length(),
            deep.length() - 8};
        for (int code = 1; code <= 6; code++) {
            loadWrong(x, texts[code - 1]);
            s.is(x.parseError(), code);
            s.fails(INDEX, () -> x.load(1));
            s.fails(INDEX, () -> x.load(-1));
            s.is(x.parseError(), code);
        }
        s.of("promise 4", "Returns the code 1 to 6; 0 if that call succeeded or if there was none.");
        VendingRoutes y = new VendingRoutes();
        s.is(y.parseError(), 0);
        s.fails(INDEX, () -> y.load(1));
        s.is(y.parseError(), 0);
        loadWrong(y, "fleet 100");
        s.is(y.parseError(), 2);
        loadOther(y, Fleets.TWO);
        s.is(y.parseError(), 0);
        s.fails(INDEX, () -> y.load(1));
        s.is(y.parseError(), 0);
        loadWrong(y, Fleets.HEAD);
        s.is(y.parseError(), 5);

        s.of("promise 5", "Returns the position of the parse error of that call of load.");
        for (int code = 1; code <= 6; code++) {
            loadWrong(x, texts[code - 1]);
            s.is(x.errorPosition(), positions[code - 1]);
            s.fails(INDEX, () -> x.load(1));
            s.is(x.errorPosition(), positions[code - 1]);
        }
        s.of("promise 5", "Returns the position; NONE if parseError() is 0.");
        VendingRoutes z = new VendingRoutes();
        s.is(z.errorPosition(), NONE);
        s.fails(INDEX, () -> z.load(-1));
        s.is(z.errorPosition(), NONE);
        loadWrong(z, "");
        s.is(z.errorPosition(), 0);
        loadOther(z, Fleets.TWO);
        s.is(z.errorPosition(), NONE);
        loadWrong(z, "                    ");
        s.is(z.errorPosition(), 20);

        s.of("promise 6", "Returns the number of bytes in the input buffer.", "Returns 0 to 1200.");
        VendingRoutes b = new VendingRoutes();
        s.is(b.buffered(), 0);
        for (int i = 1; i <= 62; i++) {
            b.append(0, 0, 0, 0, 0);
            s.is(b.buffered(), Math.min(20 * i, 1200));
        }
        s.fails(INDEX, () -> b.load(1201));
        s.is(b.buffered(), 1200);
        s.fails(ARGUMENT, () -> b.load(1));
        s.is(b.buffered(), 0);
    }

    // ---- promises 7 to 31

    private void counts() {
        s.tellsNothing("promise 7", "---- machines and slots");
        s.of("promise 7", "Returns the day.", "Returns the number of days that have passed since the text was loaded");
        s.is(FRESH.get().day() + " " + REFUSED.get().day(), "0 0");
        VendingRoutes x = Fleets.loaded(Fleets.TWO);
        s.is(x.day(), 0);
        x.advance(1);
        s.is(x.day(), 1);
        x.advance(100);
        s.is(x.day(), 101);
        x.lostIn(100);
        s.is(x.day(), 101);
        loadWrong(x, "fleet");
        s.is(x.day(), 101);
        loadOther(x, Fleets.TWO);
        s.is(x.day(), 0);
        s.is(DAY_2000.get().day(), 2000);

        s.of("promise 8", "Returns the number of machines.", "Returns the number of machines; 0 if there is no fleet.");
        s.is(FRESH.get().machines() + " " + REFUSED.get().machines(), "0 0");
        for (int count = 1; count <= 8; count++) {
            s.is(fleet(";machine 0 0".repeat(count)).machines(), count);
        }
        VendingRoutes fewer = fleet(";machine 0 0".repeat(8));
        loadWrong(fewer, Fleets.TWO + ";");
        s.is(fewer.machines(), 8);
        loadOther(fewer, Fleets.FAR);
        s.is(fewer.machines(), 1);

        s.of("promise 9", "Returns the number of products.", "Returns the number of products; 0 if there is no fleet.");
        s.is(FRESH.get().products() + " " + REFUSED.get().products(), "0 0");
        String head = Fleets.head(9, 9, 0, 0, 0, 1);
        for (int count = 0; count <= 6; count++) {
            s.is(Fleets.loaded(head + ";product 1 1 1".repeat(count) + ";machine 0 0").products(), count);
        }
        VendingRoutes six = Fleets.loaded(head + ";product 1 1 1".repeat(6) + ";machine 0 0;rule days > 0");
        loadWrong(six, head + ";product 1 1 1;machine 0 0;");
        s.is(six.products() + " " + six.rules(), "6 1");
        Fleets.write(six, head + ";machine 0 0");
        six.load(head.length() + 12);
        s.is(six.products() + " " + six.rules(), "0 0");

        s.of("promise 10", "Returns the number of rules.", "Returns the number of rules; 0 if there is no fleet.");
        s.is(FRESH.get().rules() + " " + REFUSED.get().rules(), "0 0");
        for (int count = 0; count <= 4; count++) {
            s.is(fleet(";machine 0 0" + ";rule days > 0 or days < 5".repeat(count)).rules(), count);
        }

        s.of("promise 11", "Returns the number of slots of a machine.", "Returns the number of slots.");
        VendingRoutes slots = fleet(";machine 0 0;slot 0 1 0 0;machine 0 0;machine 0 0" + ";slot 0 1 0 0".repeat(5)
                + ";machine 0 0;slot 0 1 0 0;slot 0 1 0 0");
        s.is(slots.slots(0) + " " + slots.slots(1) + " " + slots.slots(2) + " " + slots.slots(3), "1 0 5 2");
    }

    private void slots() {
        // On day 1 the first slot gets product 1 (9 units; 10 are demanded), and on day 2 it is filled again.
        VendingRoutes x = Fleets.loaded(Fleets.head(99, 9, 0, 50, 0, 1) + ";product 9 2 5;product 30 11 6"
                + ";machine 0 0;slot 0 9 7 300;slot 1 9 9 0");
        x.changeMix(0, 0, 1, 1000);
        VendingRoutes later = Fleets.loaded(Fleets.head(99, 9, 0, 50, 0, 1) + ";product 9 2 5;product 30 11 6"
                + ";machine 0 0;slot 0 9 7 300;slot 1 9 9 0");
        later.changeMix(0, 0, 1, 1000);
        later.advance(1);
        VendingRoutes last = Fleets.loaded(Fleets.head(99, 9, 0, 50, 0, 1) + ";product 9 2 5;product 30 11 6"
                + ";machine 0 0;slot 0 9 7 300;slot 1 9 9 0");
        last.changeMix(0, 0, 1, 1000);
        last.advance(2);
        String[][] sentences = {{"Returns the product of a slot.", "Returns the number of the product."},
            {"Returns the number of units in a slot.", "Returns the number of units."},
            {"Returns how many units a slot has sold since the text was loaded, of all products.",
                "Returns the number of units."},
            {"Returns how many units have been filled into a slot.", "Returns the number of units."},
            {"Returns how many units have been returned from a slot", "Returns the number of units."},
            {"Returns how many units could not be sold by a slot because it was empty.",
                "Returns the number of units."},
            {"Returns the product of the mix change that is pending for a slot.",
                "Returns the number of the product; NONE if no mix change is pending."},
            {"Returns the estimated stock of a slot.", "Returns the estimate."},
            {"Returns the estimated sales of a slot in a day.", "Returns the estimated rate."}};
        Object[][] due = {{0, 1, 1}, {7, 0, 0}, {0, 9, 18}, {0, 9, 18}, {0, 7, 7}, {0, 1, 2}, {1, NONE, NONE},
            {7f, 0f, 0f}, {3f, 9.5f, 9.25f}};
        Object[] second = {1, 9, 0, 0, 0, 0, NONE, 9f, 0f};
        for (int i = 0; i < sentences.length; i++) {
            s.of("promise " + (12 + i), sentences[i]);
            s.is(SLOT_CALLS.get(i).of(x, 0, 0), due[i][0]);
            s.is(SLOT_CALLS.get(i).of(later, 0, 0), due[i][1]);
            s.is(SLOT_CALLS.get(i).of(last, 0, 0), due[i][2]);
            s.is(SLOT_CALLS.get(i).of(last, 0, 1), second[i]);
        }
        s.of("promise 14", "Returns how many units a slot has sold since the text was loaded, of all products.");
        VendingRoutes sold = Fleets.loaded(Fleets.head(99, 9, 0, 50, 0, 1) + ";product 9 2 5;product 30 11 6"
                + ";machine 0 0;slot 0 9 9 300");
        sold.advance(1);
        sold.changeMix(0, 0, 1, 200);
        sold.advance(1);
        s.is(sold.soldOf(0, 0), 5);
        loadOther(sold, Fleets.TWO);
        s.is(sold.soldOf(0, 0), 0);
        s.of("promise 16", "Returns how many units have been returned from a slot at mix changes.");
        VendingRoutes returned = Fleets.loaded(Fleets.head(99, 9, 0, 50, 0, 1) + ";product 9 2 5;product 30 11 6"
                + ";machine 0 0;slot 0 9 7 300;slot 1 9 9 0");
        returned.changeMix(0, 0, 1, 200);
        returned.advance(1);
        s.is(returned.returnedOf(0, 0), 7);
        returned.changeMix(0, 0, 0, 0);
        returned.advance(1);
        // 2 of the 9 units were sold between the mix changes.
        s.is(returned.returnedOf(0, 0), 7 + 7);
        returned.changeMix(0, 0, 0, 0);
        returned.advance(1);
        s.is(returned.returnedOf(0, 0) + " " + returned.returnedOf(0, 1), "23 0");
        s.of("promise 18", "Returns the number of the product; NONE if no mix change is pending.");
        VendingRoutes pending = Fleets.loaded(Fleets.TWO);
        for (int product : new int[] {0, 1, 0}) {
            pending.changeMix(0, 0, product, 0);
            s.is(pending.pendingOf(0, 0) + " " + pending.pendingOf(0, 1), product + " -1");
        }
    }

    private void estimates() {
        s.of("promise 21", "Tells whether a slot reports in the evening of a day (section 3).",
                "Returns true if it does.");
        VendingRoutes x = fleet(";machine 9 9 gap 4 5;slot 0 9 9 0 every 2;slot 0 9 9 0");
        s.is(x.reports(0, 0, 1) + " " + x.reports(0, 0, 2) + " " + x.reports(0, 0, 4) + " " + x.reports(0, 1, 5)
                + " " + x.reports(0, 1, 6), "false true false false true");
        x.advance(3);
        // Days that have passed are answered by the gap that there is now.
        s.is(x.reports(0, 0, 2), true);
        x.setGap(0, 1, 3);
        s.is(x.reports(0, 0, 2) + " " + x.reports(0, 0, 4), "false true");
        s.of("promise 21", "- `day`: 1 to 2000");
        s.is(x.reports(0, 1, 1) + " " + x.reports(0, 1, 2000), "false true");
        s.of("promise 21", "Throws `IllegalArgumentException` if day is out of range");
        for (int day : new int[] {0, -1, 2001, MAX, MIN}) {
            s.refuses(BUSY, ARGUMENT, y -> y.reports(0, 0, day));
            s.refuses(DAY_2000, ARGUMENT, y -> y.reports(1, 0, day));
        }

        s.of("promise 22", "Returns the risk of a machine (section 4).", "Returns the risk.");
        VendingRoutes risky = Fleets.loaded(Fleets.FAR);
        s.is(risky.risk(0), (2.5f * 3f - 3f) * 7f);
        risky.advance(1);
        s.is(risky.risk(0), (2.5f * 3f - 0.5f) * 7f);
        s.is(fleet(";machine 0 0").risk(0), 0f);
        s.is(fleet(";machine 0 0;slot 0 99 99 0").risk(0), 0f);

        s.of("promise 23", "Tells whether a machine is due for the route of the next day, planned now (section 4).",
                "Returns true if it is.");
        VendingRoutes due = fleet(";machine 0 0;slot 0 10 6 100;machine 0 0;slot 0 10 5 0;machine 0 0"
                + ";rule weekday = 3");
        s.is(due.isDue(0) + " " + due.isDue(1) + " " + due.isDue(2), "false true false");
        due.advance(1);
        s.is(due.isDue(0) + " " + due.isDue(1) + " " + due.isDue(2), "true false false");
        due.advance(1);
        s.is(due.isDue(0) + " " + due.isDue(1) + " " + due.isDue(2), "true true true");
        due.advance(1);
        s.is(due.isDue(0) + " " + due.isDue(1) + " " + due.isDue(2), "false false false");

        ruleNumbers();
        daysLeft();
    }

    private void ruleNumbers() {
        s.of("promise 24", "Tells whether a rule holds for a machine and the next day, now.",
                "Returns true if it holds.");
        VendingRoutes x = fleet(";machine 0 0;machine 0 0;rule days = 1;rule not days = 1;rule days = 2"
                + ";rule visits = 0");
        s.is(x.isRuleMet(0, 0) + " " + x.isRuleMet(1, 0) + " " + x.isRuleMet(2, 0), "true false false");
        x.advance(1);
        s.is(x.isRuleMet(0, 0) + " " + x.isRuleMet(1, 0) + " " + x.isRuleMet(3, 0), "true false false");
        s.of("promise 24", "- `rule`: number of the rule", "- `machine`: number of the machine");
        s.is(x.isRuleMet(3, 1) + " " + x.isRuleMet(2, 1) + " " + x.isRuleMet(0, 1), "false false true");
        s.of("promise 24", "Throws `IndexOutOfBoundsException` if there is no such rule or machine");
        for (int rule : new int[] {-1, 1, 2, 4, MAX, MIN}) {
            s.refuses(BUSY, INDEX, y -> y.isRuleMet(rule, 0));
        }
        for (int m : new int[] {-1, 2, 8, MAX, MIN}) {
            s.refuses(BUSY, INDEX, y -> y.isRuleMet(0, m));
        }
        s.fails(INDEX, () -> x.isRuleMet(4, 0));
        s.fails(INDEX, () -> Fleets.loaded(Fleets.TWO).isRuleMet(0, 0));
        // A rule of an earlier fleet is none.
        Fleets.write(x, Fleets.HEAD + ";machine 0 0;rule days = 5");
        x.load(Fleets.HEAD.length() + 26);
        s.is(x.isRuleMet(0, 0), false);
        s.fails(INDEX, () -> x.isRuleMet(1, 0));
    }

    private void daysLeft() {
        s.of("promise 25", "Returns the smallest number of days d such that");
        VendingRoutes x = fleet(";machine 0 0;slot 0 9 9 300;machine 0 0;slot 0 9 9 301;machine 0 0;slot 0 9 9 299"
                + ";machine 0 0;slot 0 9 9 100;slot 0 9 8 200;slot 0 9 9 0;machine 0 0;slot 0 9 7 70");
        s.is(x.daysLeft(0) + " " + x.daysLeft(1) + " " + x.daysLeft(2) + " " + x.daysLeft(3), "3 3 4 4");
        // 10 times 0.7 is 7 as floats, though 0.7 itself is a little less.
        s.is(x.daysLeft(4), 10);
        // By the estimate, not by the stock.
        VendingRoutes half = Fleets.loaded(Fleets.FAR.replace("3 250 every 3", "5 50 every 9"));
        s.is(half.daysLeft(0), 10);
        half.advance(1);
        s.is(half.stockOf(0, 0) + " " + half.daysLeft(0), "5 9");

        s.of("promise 25", "Returns d, 0 to 99; 99 if there is no smaller one.");
        VendingRoutes y = fleet(";machine 0 0;machine 0 0;slot 0 9 9 0;machine 0 0;slot 0 99 98 100;machine 0 0"
                + ";slot 0 99 99 100;machine 0 0;slot 0 9 1 1;machine 0 0;slot 0 9 0 0;machine 0 0;slot 0 9 9 0"
                + ";slot 0 9 0 2000;machine 0 0;slot 0 20 20 2000");
        int[] due = {99, 99, 98, 99, 99, 0, 0, 1};
        for (int m = 0; m < due.length; m++) {
            s.is(m + ": " + y.daysLeft(m), m + ": " + due[m]);
        }
    }

    private void machines() {
        // One machine sells 2 units at 10 a day and is visited on the days 3 and 6; the other one is out of reach.
        VendingRoutes[] x = new VendingRoutes[8];
        for (int day = 0; day < x.length; day++) {
            x[day] = Fleets.loaded(Fleets.head(9, 99, 0, 0, 0, 1) + ";product 10 1 1;machine 1 1;slot 0 99 99 200"
                    + ";machine 9 9;slot 0 99 99 300;rule days = 3");
            if (day > 0) {
                x[day].advance(day);
            }
        }
        int[] cash = {0, 20, 40, 20, 40, 60, 20, 40};
        s.of("promise 26", "Returns the cash in a machine.", "Returns the amount in cents.");
        for (int day = 0; day < x.length; day++) {
            s.is(x[day].cashIn(0) + " " + x[day].cashIn(1), cash[day] + " " + 30 * day);
        }
        s.of("promise 27", "Returns how often a machine has been visited.", "Returns the number of visits.");
        int[] visits = {0, 0, 0, 1, 1, 1, 2, 2};
        for (int day = 0; day < x.length; day++) {
            s.is(x[day].visitsOf(0) + " " + x[day].visitsOf(1), visits[day] + " 0");
        }
        s.of("promise 28", "Returns the day of the latest visit to a machine.",
                "Returns the day; NONE if it has not been visited.");
        int[] latest = {NONE, NONE, NONE, 3, 3, 3, 6, 6};
        for (int day = 0; day < x.length; day++) {
            s.is(x[day].lastVisit(0) + " " + x[day].lastVisit(1), latest[day] + " -1");
        }
        VendingRoutes most = Fleets.loaded(Fleets.head(9, 9999, 0, 0, 100, 1) + ";product 999 0 0;machine 9 9"
                + ";slot 0 99 99 2000".repeat(5) + ";machine 0 0" + ";slot 0 99 99 2000".repeat(5));
        for (int i = 0; i < 20; i++) {
            most.advance(100);
        }
        s.is(most.visitsOf(1) + " " + most.lastVisit(1) + " " + most.cashIn(1), "2000 2000 " + 999 * 100);
        s.is(most.account() + " " + most.cashIn(0), 999 * 100 * 1999 + " " + 999 * 5 * 99);
        s.is(most.profit() + " " + most.leftover(), 999L * (100 * 2000 + 5 * 99) + " 0");
    }

    private void rankings() {
        s.of("promise 29", "Returns a slot by its estimated stock divided by its CAPACITY (floats)",
                "Returns 10 times the number of the machine plus the number of the slot.", "- `rank`: from 0");
        VendingRoutes x = fleet(";machine 0 0;slot 0 4 2 0;slot 0 9 0 0;machine 0 0;machine 0 0;slot 0 10 5 0"
                + ";slot 0 9 9 0;slot 0 2 1 0;slot 0 99 49 0;slot 0 5 5 0");
        int[] order = {1, 23, 0, 20, 22, 21, 24};
        for (int rank = 0; rank < order.length; rank++) {
            s.is(rank + ": " + x.lowestSlot(rank), rank + ": " + order[rank]);
        }
        // By the estimates, which are 8.5 of 9 and 8.67 of 9, where the stocks are 9; as floats 0.99 and 8.91 / 9 are
        // the same, though the first one is a little more.
        VendingRoutes y = Fleets.loaded(Fleets.head(1, 0, 0, 0, 0, 1) + ";product 1 1 1;machine 9 9"
                + ";slot 0 9 9 33 every 9;slot 0 9 9 50 every 9;slot 0 1 1 1 every 9;slot 0 9 9 9 every 9");
        s.is(y.lowestSlot(0) + " " + y.lowestSlot(1) + " " + y.lowestSlot(2) + " " + y.lowestSlot(3), "0 1 2 3");
        y.advance(1);
        s.is(y.lowestSlot(0) + " " + y.lowestSlot(1) + " " + y.lowestSlot(2) + " " + y.lowestSlot(3), "1 0 2 3");
        // By the estimate even if the slot is empty: 1 of 9, beside 5 of 99.
        VendingRoutes sold = Fleets.loaded(Fleets.head(1, 0, 0, 100, 0, 1) + ";product 1 1 1;machine 9 9 gap 2 3"
                + ";slot 0 9 3 150;slot 0 99 5 0;slot 0 9 9 0");
        sold.advance(2);
        s.is(sold.stockOf(0, 0) + " " + sold.estimateOf(0, 0), "0 1.0");
        s.is(sold.lowestSlot(0) + " " + sold.lowestSlot(1) + " " + sold.lowestSlot(2), "1 0 2");
        // 0.01 of 20 twice, but for the last digits of floats: 5.0001E-4 and 4.999995E-4.
        VendingRoutes near = Fleets.loaded(Fleets.head(1, 0, 0, 0, 0, 1) + ";product 1 1 1;machine 9 9"
                + ";slot 0 20 20 1999 every 9;slot 0 20 3 299 every 9");
        near.advance(1);
        s.is(near.estimateOf(0, 0) > near.estimateOf(0, 1), true);
        s.is(near.lowestSlot(0) + " " + near.lowestSlot(1), "1 0");
        s.of("promise 29",
                "Throws `IndexOutOfBoundsException` if rank is negative or not less than the number of slots");
        for (int rank : new int[] {-1, 3, 4, 10, MAX, MIN}) {
            s.refuses(BUSY, INDEX, z -> z.lowestSlot(rank));
        }
        s.is(BUSY.get().lowestSlot(2) >= 0, true);
        VendingRoutes none = fleet(";machine 0 0;machine 0 0");
        s.fails(INDEX, () -> none.lowestSlot(0));
        VendingRoutes most = fleet((";machine 0 0" + ";slot 0 9 9 0".repeat(5)).repeat(8));
        for (int rank = 0; rank < 40; rank++) {
            s.is(most.lowestSlot(rank), rank / 5 * 10 + rank % 5);
        }
        s.fails(INDEX, () -> most.lowestSlot(40));

        s.of("promise 30", "Returns the number of units of a product in all slots of all machines.",
                "Returns the number of units.", "- `product`: number of the product");
        VendingRoutes p = Fleets.loaded(Fleets.head(1, 0, 0, 0, 0, 1) + ";product 1 1 1".repeat(6) + ";machine 0 0"
                + ";slot 0 9 4 0;slot 1 9 5 0;slot 0 9 6 0;machine 9 9;slot 0 9 7 100;slot 5 9 8 0");
        s.is(p.stockOfProduct(0) + " " + p.stockOfProduct(1) + " " + p.stockOfProduct(2) + " " + p.stockOfProduct(5),
                "17 5 0 8");
        p.changeMix(1, 1, 2, 0);
        p.changeMix(0, 1, 0, 0);
        s.is(p.stockOfProduct(0) + " " + p.stockOfProduct(1), "17 5");
        p.advance(1);
        s.is(p.stockOfProduct(0) + " " + p.stockOfProduct(1) + " " + p.stockOfProduct(5), "16 0 8");
        // Units, not estimates, which are 8.5 and 2.5 here.
        VendingRoutes silent = Fleets.loaded(Fleets.head(1, 0, 0, 0, 0, 1) + ";product 1 1 1;machine 9 9"
                + ";slot 0 9 9 50 every 9;slot 0 9 3 50 every 9");
        silent.advance(1);
        s.is(silent.estimateOf(0, 0) + " " + silent.estimateOf(0, 1), "8.5 2.5");
        s.is(silent.stockOfProduct(0), 12);
        s.of("promise 30", "Throws `IndexOutOfBoundsException` if there is no such product");
        for (int product : new int[] {-1, 2, 6, MAX, MIN}) {
            s.refuses(BUSY, INDEX, z -> z.stockOfProduct(product));
        }
        s.fails(INDEX, () -> p.stockOfProduct(6));
        VendingRoutes bare = Fleets.loaded(Fleets.head(1, 0, 0, 0, 0, 1) + ";machine 0 0");
        s.fails(INDEX, () -> bare.stockOfProduct(0));
        worst();
    }

    private void worst() {
        s.of("promise 31", "Returns a machine by the number of units that its slots together could not sell",
                "Returns the number of the machine.", "- `rank`: from 0");
        // Each day 0, 4, 4 (in two slots), 4 and 5 units are lost; 2 is never visited, 1 and 3 are.
        VendingRoutes x = Fleets.loaded(Fleets.head(5, 0, 0, 0, 0, 1) + ";product 1 1 1;machine 0 0;slot 0 9 9 0"
                + ";machine 0 0;slot 0 9 0 400;machine 9 9;slot 0 9 0 100;slot 0 9 0 300;machine 0 0;slot 0 9 0 400"
                + ";machine 0 0;slot 0 9 0 500");
        String[] due = {"0 1 2 3 4", "4 2 1 3 0", "4 2 1 3 0"};
        for (int day = 0; day < due.length; day++) {
            StringBuilder order = new StringBuilder();
            for (int rank = 0; rank < 5; rank++) {
                order.append(rank > 0 ? " " : "").append(x.worst(rank));
            }
            s.is(order.toString(), due[day]);
            x.advance(1);
        }
        // Machine m lacks 1 + m units in each of its five slots.
        VendingRoutes full = Fleets.loaded(fullText());
        full.setShift(1);
        full.advance(1);
        for (int rank = 0; rank < 8; rank++) {
            s.is(full.worst(rank), 7 - rank);
        }
        s.of("promise 31",
                "Throws `IndexOutOfBoundsException` if rank is negative or not less than the number of machines");
        for (int rank : new int[] {-1, 2, 8, MAX, MIN}) {
            s.refuses(BUSY, INDEX, z -> z.worst(rank));
        }
        VendingRoutes eight = fleet(";machine 0 0".repeat(8));
        s.is(eight.worst(0) + " " + eight.worst(7), "0 7");
        s.fails(INDEX, () -> eight.worst(8));
    }

    // ---- promises 32 to 36

    private void routes() {
        s.of("promise 32", "---- the route of the next day, planned now (section 4); nothing changes");
        // On the next day, day 5, the rule does not hold yet; both are due by their estimates or are forced.
        s.asks(BUSY, 2, VendingRoutes::routeLength);
        s.asks(BUSY, 0, x -> x.routeAt(0));
        s.asks(BUSY, 38, VendingRoutes::routeMinutes);
        s.asks(BUSY, BUSY.get().plannedLoad(0), x -> x.plannedLoad(0));
        s.asks(BUSY, 11, x -> x.minutesBetween(0, 1));
        // It is the route that is driven then.
        for (int days = 0; days < 12; days++) {
            VendingRoutes x = busy();
            if (days > 0) {
                x.advance(days);
            }
            int length = x.routeLength();
            int minutes = x.routeMinutes() + x.minutes();
            int first = x.events();
            StringBuilder planned = new StringBuilder();
            for (int place = 0; place < length; place++) {
                planned.append(x.routeAt(place));
            }
            x.advance(1);
            StringBuilder driven = new StringBuilder();
            for (int i = first; i < x.events(); i++) {
                driven.append(x.event(i, 1) == 0 ? x.event(i, 2) : "");
            }
            s.is(driven.toString(), planned.toString());
            s.is(x.minutes(), minutes);
        }

        s.of("promise 32", "Returns the number of machines of the route.", "Returns the number of machines.");
        s.is(fleet(";machine 0 0").routeLength(), 0);
        for (int count = 1; count <= 8; count++) {
            s.is(fleet(";machine 0 0".repeat(count) + ";rule days > 0").routeLength(), count);
        }
        s.is(DAY_2000.get().routeLength() >= 0, true);

        s.of("promise 33", "Returns a machine of the route.", "Returns the number of the machine.",
                "- `place`: from 0");
        VendingRoutes eight = fleet(";machine 0 0".repeat(8) + ";rule days > 0");
        for (int place = 0; place < 8; place++) {
            s.is(eight.routeAt(place), 7 - place);
        }
        s.of("promise 33", "Throws `IndexOutOfBoundsException` if place is negative or not less than routeLength()");
        s.fails(INDEX, () -> eight.routeAt(8));
        for (int place : new int[] {-1, 2, 8, MAX, MIN}) {
            s.refuses(BUSY, INDEX, x -> x.routeAt(place));
        }
        VendingRoutes none = fleet(";machine 0 0");
        s.fails(INDEX, () -> none.routeAt(0));
        // Behind a longer route, the places of it are gone.
        eight.setShift(1);
        VendingRoutes shrunk = fleet(";machine 0 0;machine 1 0;rule days > 0");
        s.is(shrunk.routeAt(1), 0);
        shrunk.setShift(1);
        s.is(shrunk.routeAt(0), 0);
        s.fails(INDEX, () -> shrunk.routeAt(1));

        s.of("promise 34", "Returns the minutes of the route.", "Returns the minutes, 0 for an empty route.");
        s.is(fleet(";machine 0 0").routeMinutes(), 0);
        s.is(Fleets.loaded(Fleets.FAR).routeMinutes(), 0);
        String far = Fleets.HEAD.replace("visit 0", "visit 99") + ";machine 99 99;rule days > 0";
        s.is(Fleets.loaded(far).routeMinutes(), 396 + 99);
        VendingRoutes shift = Fleets.loaded(far);
        shift.setShift(495);
        s.is(shift.routeMinutes(), 495);
        shift.setShift(494);
        s.is(shift.routeMinutes(), 0);

        s.of("promise 35", "Returns how many units of a product are loaded for the route.",
                "Returns the number of units.",
                "- `product`: number of the product");
        VendingRoutes p = Fleets.loaded(Fleets.head(9, 9999, 0, 0, 100, 1) + ";product 1 1 1".repeat(6)
                + (";machine 0 0" + ";slot 5 99 0 0".repeat(5)).repeat(8) + ";rule days > 0");
        s.is(p.plannedLoad(0) + " " + p.plannedLoad(4) + " " + p.plannedLoad(5), "0 0 " + 40 * 99);
        s.is(fleet(";machine 0 0").plannedLoad(0), 0);
        s.of("promise 35", "Throws `IndexOutOfBoundsException` if there is no such product");
        s.fails(INDEX, () -> p.plannedLoad(6));
        for (int product : new int[] {-1, 2, 6, MAX, MIN}) {
            s.refuses(BUSY, INDEX, x -> x.plannedLoad(product));
        }

        s.of("promise 36", "Returns the minutes of the way between two machines.", "Returns the minutes.",
                "- `machine`: number of a machine; NONE for the depot",
                "- `other`: number of a machine; NONE for the depot");
        VendingRoutes w = Fleets.loaded(Fleets.HEAD.replace("fleet 0 0", "fleet 5 9") + ";machine 0 0".repeat(7)
                + ";machine 99 99");
        s.is(w.minutesBetween(NONE, NONE) + " " + w.minutesBetween(NONE, 0) + " " + w.minutesBetween(0, NONE),
                "0 14 14");
        s.is(w.minutesBetween(7, 0) + " " + w.minutesBetween(0, 7) + " " + w.minutesBetween(7, 7), "198 198 0");
        s.is(w.minutesBetween(NONE, 7) + " " + w.minutesBetween(7, NONE), "184 184");
        s.of("promise 36",
                "Throws `IndexOutOfBoundsException` if a parameter is neither NONE nor the number of a machine");
        s.fails(INDEX, () -> w.minutesBetween(8, NONE));
        s.fails(INDEX, () -> w.minutesBetween(NONE, 8));
        for (int m : new int[] {-2, 2, 8, MAX, MIN}) {
            s.refuses(BUSY, INDEX, x -> x.minutesBetween(m, 0));
            s.refuses(BUSY, INDEX, x -> x.minutesBetween(0, m));
            s.refuses(BUSY, INDEX, x -> x.minutesBetween(m, NONE));
            s.refuses(BUSY, INDEX, x -> x.minutesBetween(NONE, m));
        }
    }
}
