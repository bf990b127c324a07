import java.util.Arrays;

/** A planner for the routes of a vending machine service. */
public final class VendingRoutes {
    public static final int NONE = -1;

    private static final int BUFFER_BYTES = 1200;
    private static final int APPENDED_BYTES = 20;
    private static final int LAST_DAY = 2000;
    private static final int MAX_PRODUCTS = 6;
    private static final int MAX_MACHINES = 8;
    private static final int MAX_SLOTS = 5;
    private static final int MAX_RULES = 4;
    private static final int MAX_OUTER_UNITS = 9;
    private static final int MAX_LEVEL = 100;
    private static final int LEVEL_STEP = 10;
    private static final int MAX_SHIFT = 999;
    private static final int MAX_RATE = 2000;
    private static final int MAX_GAP_DAY = 9999;
    private static final int MAX_DEPOSIT = 1000000000;
    private static final int MAX_DAYS = 100;
    private static final int MAX_COMPARED_DAYS = 60;
    private static final int MAX_DAYS_LEFT = 99;
    private static final int MAX_EVENTS = 300;
    private static final int EVENT_PARTS = 4;
    private static final int VISIT_EVENT = 0;
    private static final int MIX_EVENT = 1;
    private static final int DEPOSIT_EVENT = 2;
    private static final int MAX_CHANGES_KEPT = 6;
    private static final int SAVING_PLACES = 2;
    private static final int DAYS_OF_WEEK = 7;
    private static final int CENTS = 100;
    // Each reversal saves a minute at least, so no route comes near this.
    private static final int MAX_REVERSALS = 1000000;

    private final byte[] buffer;
    private int bufferLength;
    private final Parser parser;
    private final Planner planner;
    private final Simulator simulator;
    private Fleet fleet;
    // A text is parsed into the spare fleet and the trial state, for the fleet to stay if it is wrong.
    private Fleet spareFleet;
    private boolean hasFleet;
    private State state;
    private final State trial;
    private final History history;
    private final State[] savedStates;
    private final boolean[] isSaved;
    private final StringBuilder reportText;

    public VendingRoutes() {
        buffer = new byte[BUFFER_BYTES];
        bufferLength = 0;
        parser = new Parser();
        planner = new Planner();
        simulator = new Simulator(planner);
        fleet = new Fleet();
        spareFleet = new Fleet();
        hasFleet = false;
        state = new State();
        trial = new State();
        history = new History();
        savedStates = new State[SAVING_PLACES];
        for (int i = 0; i < SAVING_PLACES; i++) {
            savedStates[i] = new State();
        }
        isSaved = new boolean[SAVING_PLACES];
        reportText = new StringBuilder();
    }

    // ---- input

    public int append(int a, int b, int c, int d, int e) {
        if (bufferLength + APPENDED_BYTES > BUFFER_BYTES) {
            return NONE;
        }
        putBytes(a);
        putBytes(b);
        putBytes(c);
        putBytes(d);
        putBytes(e);
        return bufferLength;
    }

    private void putBytes(int four) {
        for (int shift = 24; shift >= 0 && bufferLength < BUFFER_BYTES; shift -= 8) {
            buffer[bufferLength] = (byte) (four >> shift);
            bufferLength++;
        }
    }

    public int load(int n) throws IndexOutOfBoundsException, IllegalArgumentException {
        if (n < 0 || n > bufferLength) {
            throw new IndexOutOfBoundsException("not so many bytes");
        }
        bufferLength = 0;
        parser.parseText(buffer, n, spareFleet, trial);
        Fleet parsed = spareFleet;
        spareFleet = fleet;
        fleet = parsed;
        state.copyFrom(trial);
        hasFleet = true;
        history.count = 0;
        for (int place = 0; place < SAVING_PLACES; place++) {
            isSaved[place] = false;
        }
        return state.machineCount;
    }

    public int parseError() {
        return parser.error;
    }

    public int errorPosition() {
        return parser.position;
    }

    public int buffered() {
        return bufferLength;
    }

    // ---- machines and slots

    public int day() {
        return state.day;
    }

    public int machines() {
        return state.machineCount;
    }

    public int products() {
        return fleet.productCount;
    }

    public int rules() {
        return fleet.rulebook.count;
    }

    public int slots(int machine) throws IllegalStateException, IndexOutOfBoundsException {
        return machineAt(machine).slotCount;
    }

    public int productOf(int machine, int slot) throws IllegalStateException, IndexOutOfBoundsException {
        return slotAt(machine, slot).product;
    }

    public int stockOf(int machine, int slot) throws IllegalStateException, IndexOutOfBoundsException {
        return slotAt(machine, slot).stock;
    }

    public int soldOf(int machine, int slot) throws IllegalStateException, IndexOutOfBoundsException {
        return slotAt(machine, slot).sold;
    }

    public int filledOf(int machine, int slot) throws IllegalStateException, IndexOutOfBoundsException {
        return slotAt(machine, slot).filled;
    }

    public int returnedOf(int machine, int slot) throws IllegalStateException, IndexOutOfBoundsException {
        return slotAt(machine, slot).returned;
    }

    public int lostOf(int machine, int slot) throws IllegalStateException, IndexOutOfBoundsException {
        return slotAt(machine, slot).lost;
    }

    public int pendingOf(int machine, int slot) throws IllegalStateException, IndexOutOfBoundsException {
        return slotAt(machine, slot).pendingProduct;
    }

    public float estimateOf(int machine, int slot) throws IllegalStateException, IndexOutOfBoundsException {
        return slotAt(machine, slot).estimatedStock;
    }

    public float rateOf(int machine, int slot) throws IllegalStateException, IndexOutOfBoundsException {
        return slotAt(machine, slot).estimatedRate;
    }

    public boolean reports(int machine, int slot, int day)
            throws IllegalStateException, IndexOutOfBoundsException, IllegalArgumentException {
        Slot reporting = slotAt(machine, slot);
        if (day < 1 || day > LAST_DAY) {
            throw new IllegalArgumentException("no such day");
        }
        return !machineAt(machine).isSilentOn(day) && reporting.isReportDay(day);
    }

    public float risk(int machine) throws IllegalStateException, IndexOutOfBoundsException {
        return machineAt(machine).riskOfLoss(fleet);
    }

    public boolean isDue(int machine) throws IllegalStateException, IndexOutOfBoundsException {
        return machineAt(machine).needsVisit(fleet, state.level, state.day + 1);
    }

    public boolean isRuleMet(int rule, int machine) throws IllegalStateException, IndexOutOfBoundsException {
        requireFleet();
        if (rule < 0 || rule >= fleet.rulebook.count) {
            throw new IndexOutOfBoundsException("no such rule");
        }
        return fleet.rulebook.holds(rule, machineAt(machine), state.day + 1);
    }

    public int daysLeft(int machine) throws IllegalStateException, IndexOutOfBoundsException {
        Machine asked = machineAt(machine);
        for (int days = 0; days < MAX_DAYS_LEFT; days++) {
            if (asked.isUsedUpIn(days)) {
                return days;
            }
        }
        return MAX_DAYS_LEFT;
    }

    public int cashIn(int machine) throws IllegalStateException, IndexOutOfBoundsException {
        return machineAt(machine).cash;
    }

    public int visitsOf(int machine) throws IllegalStateException, IndexOutOfBoundsException {
        return machineAt(machine).visits;
    }

    public int lastVisit(int machine) throws IllegalStateException, IndexOutOfBoundsException {
        return machineAt(machine).latestVisit;
    }

    public int lowestSlot(int rank) throws IllegalStateException, IndexOutOfBoundsException {
        requireFleet();
        if (rank >= 0) {
            for (int m = 0; m < state.machineCount; m++) {
                for (int s = 0; s < state.machines[m].slotCount; s++) {
                    if (slotsBefore(m, s) == rank) {
                        return 10 * m + s;
                    }
                }
            }
        }
        throw new IndexOutOfBoundsException("no slot of this rank");
    }

    private int slotsBefore(int machine, int slot) {
        float share = state.machines[machine].slots[slot].estimatedShare();
        int before = 0;
        for (int m = 0; m < state.machineCount; m++) {
            Machine other = state.machines[m];
            for (int s = 0; s < other.slotCount; s++) {
                float otherShare = other.slots[s].estimatedShare();
                boolean isEarlier = m < machine || m == machine && s < slot;
                if (otherShare < share || otherShare == share && isEarlier) {
                    before++;
                }
            }
        }
        return before;
    }

    public int stockOfProduct(int product) throws IllegalStateException, IndexOutOfBoundsException {
        requireProduct(product);
        int units = 0;
        for (int m = 0; m < state.machineCount; m++) {
            Machine machine = state.machines[m];
            for (int s = 0; s < machine.slotCount; s++) {
                if (machine.slots[s].product == product) {
                    units += machine.slots[s].stock;
                }
            }
        }
        return units;
    }

    public int worst(int rank) throws IllegalStateException, IndexOutOfBoundsException {
        requireFleet();
        if (rank >= 0) {
            for (int m = 0; m < state.machineCount; m++) {
                if (machinesWorseThan(m) == rank) {
                    return m;
                }
            }
        }
        throw new IndexOutOfBoundsException("no machine of this rank");
    }

    private int machinesWorseThan(int machine) {
        int lost = state.machines[machine].lostUnits();
        int visits = state.machines[machine].visits;
        int worse = 0;
        for (int m = 0; m < state.machineCount; m++) {
            int otherLost = state.machines[m].lostUnits();
            int otherVisits = state.machines[m].visits;
            boolean isFirst = otherVisits < visits || otherVisits == visits && m < machine;
            if (otherLost > lost || otherLost == lost && isFirst) {
                worse++;
            }
        }
        return worse;
    }

    // ---- the route of the next day

    public int routeLength() throws IllegalStateException {
        planNextRoute();
        return planner.length;
    }

    public int routeAt(int place) throws IllegalStateException, IndexOutOfBoundsException {
        planNextRoute();
        if (place < 0 || place >= planner.length) {
            throw new IndexOutOfBoundsException("no such place");
        }
        return planner.route[place];
    }

    public int routeMinutes() throws IllegalStateException {
        planNextRoute();
        return planner.routeTime;
    }

    public int plannedLoad(int product) throws IllegalStateException, IndexOutOfBoundsException {
        requireProduct(product);
        planNextRoute();
        return planner.loaded[product];
    }

    public int minutesBetween(int machine, int other) throws IllegalStateException, IndexOutOfBoundsException {
        requireFleet();
        if (machine < NONE || machine >= state.machineCount || other < NONE || other >= state.machineCount) {
            throw new IndexOutOfBoundsException("no such machine");
        }
        return fleet.wayBetween(machine, other);
    }

    // ---- totals and the log

    public int account() {
        return state.account;
    }

    public long deposited() {
        return state.deposited;
    }

    public long shortage() {
        return state.shortage;
    }

    public int minutes() {
        return state.drivenMinutes;
    }

    public int leftover() {
        return state.leftover;
    }

    public long lostCost() {
        return state.lostCost;
    }

    public long profit() {
        return state.tradeGain - state.lostCost;
    }

    public int events() {
        return state.eventCount;
    }

    public int event(int number, int what)
            throws IllegalStateException, IndexOutOfBoundsException, IllegalArgumentException {
        requireFleet();
        if (number < 0 || number >= state.eventCount) {
            throw new IndexOutOfBoundsException("no such event");
        }
        if (what < 0 || what >= EVENT_PARTS) {
            throw new IllegalArgumentException("no such part");
        }
        return state.events[number * EVENT_PARTS + what];
    }

    // ---- what-if questions

    public int report() throws IllegalStateException {
        requireFleet();
        reportText.setLength(0);
        for (int m = 0; m < state.machineCount; m++) {
            if (m > 0) {
                reportText.append(';');
            }
            reportText.append(m);
            reportText.append(':');
            writeStocks(state.machines[m]);
        }
        return reportText.length();
    }

    private void writeStocks(Machine machine) {
        for (int s = 0; s < machine.slotCount; s++) {
            if (s > 0) {
                reportText.append(',');
            }
            reportText.append(machine.slots[s].stock);
            reportText.append('/');
            reportText.append(machine.slots[s].capacity);
        }
    }

    public int reportByte(int i) throws IndexOutOfBoundsException {
        if (i < 0 || i >= reportText.length()) {
            throw new IndexOutOfBoundsException("no such byte");
        }
        return reportText.charAt(i);
    }

    public int lostIn(int n) throws IllegalStateException, IllegalArgumentException {
        requireDays(n, MAX_DAYS);
        trial.copyFrom(state);
        simulator.passDays(fleet, trial, n);
        return trial.lostUnits - state.lostUnits;
    }

    public int visitsIn(int n) throws IllegalStateException, IllegalArgumentException {
        requireDays(n, MAX_DAYS);
        trial.copyFrom(state);
        simulator.passDays(fleet, trial, n);
        return trial.visitCount - state.visitCount;
    }

    public int firstLoss(int n) throws IllegalStateException, IllegalArgumentException {
        requireDays(n, MAX_DAYS);
        trial.copyFrom(state);
        for (int days = 1; days <= n; days++) {
            simulator.passDays(fleet, trial, 1);
            if (trial.lostUnits > state.lostUnits) {
                return days;
            }
        }
        return NONE;
    }

    public int bestLevel(int n) throws IllegalStateException, IllegalArgumentException {
        requireDays(n, MAX_COMPARED_DAYS);
        int best = NONE;
        long leastCost = 0;
        int fewestVisits = 0;
        for (int level = 0; level <= MAX_LEVEL; level += LEVEL_STEP) {
            trial.copyFrom(state);
            trial.level = level;
            simulator.passDays(fleet, trial, n);
            boolean isLess = trial.lostCost < leastCost
                    || trial.lostCost == leastCost && trial.visitCount < fewestVisits;
            if (best == NONE || isLess) {
                best = level;
                leastCost = trial.lostCost;
                fewestVisits = trial.visitCount;
            }
        }
        return best;
    }

    public int bestForce(int n) throws IllegalStateException, IllegalArgumentException {
        requireDays(n, MAX_COMPARED_DAYS);
        trial.copyFrom(state);
        simulator.passDays(fleet, trial, n);
        int best = NONE;
        long leastCost = trial.lostCost;
        for (int m = 0; m < state.machineCount; m++) {
            trial.copyFrom(state);
            trial.machines[m].isForced = true;
            simulator.passDays(fleet, trial, n);
            if (trial.lostCost < leastCost) {
                best = m;
                leastCost = trial.lostCost;
            }
        }
        return best;
    }

    public long mixGain(int machine, int slot, int product, int rate, int n)
            throws IllegalStateException, IndexOutOfBoundsException, IllegalArgumentException {
        requireMix(machine, slot, product, rate);
        requireDays(n, MAX_COMPARED_DAYS);
        trial.copyFrom(state);
        simulator.passDays(fleet, trial, n);
        long without = trial.tradeGain - trial.lostCost;
        trial.copyFrom(state);
        trial.machines[machine].slots[slot].orderMix(product, rate);
        simulator.passDays(fleet, trial, n);
        return trial.tradeGain - trial.lostCost - without;
    }

    // ---- changes

    public int advance(int n) throws IllegalStateException, IllegalArgumentException {
        requireDays(n, MAX_DAYS);
        history.keep(state);
        int before = state.lostUnits;
        simulator.passDays(fleet, state, n);
        return state.lostUnits - before;
    }

    public boolean force(int machine) throws IllegalStateException, IndexOutOfBoundsException {
        Machine forced = machineAt(machine);
        history.keep(state);
        boolean wasForced = forced.isForced;
        forced.isForced = true;
        return !wasForced;
    }

    public int changeMix(int machine, int slot, int product, int rate)
            throws IllegalStateException, IndexOutOfBoundsException, IllegalArgumentException {
        requireMix(machine, slot, product, rate);
        history.keep(state);
        Slot changed = slotAt(machine, slot);
        int before = changed.pendingProduct;
        changed.orderMix(product, rate);
        return before;
    }

    public int setLevel(int level) throws IllegalStateException, IllegalArgumentException {
        requireFleet();
        if (level < 0 || level > MAX_LEVEL) {
            throw new IllegalArgumentException("no such level");
        }
        history.keep(state);
        int before = state.level;
        state.level = level;
        return before;
    }

    public int setShift(int shift) throws IllegalStateException, IllegalArgumentException {
        requireFleet();
        if (shift < 1 || shift > MAX_SHIFT) {
            throw new IllegalArgumentException("no such shift");
        }
        history.keep(state);
        int before = state.shift;
        state.shift = shift;
        return before;
    }

    public boolean setGap(int machine, int from, int until)
            throws IllegalStateException, IndexOutOfBoundsException, IllegalArgumentException {
        Machine changed = machineAt(machine);
        if (from < 0 || from > MAX_GAP_DAY || until < 0 || until > MAX_GAP_DAY) {
            throw new IllegalArgumentException("no such gap");
        }
        history.keep(state);
        boolean isOther = changed.gapFrom != from || changed.gapUntil != until;
        changed.gapFrom = from;
        changed.gapUntil = until;
        return isOther;
    }

    public int deposit(int amount) throws IllegalStateException, IllegalArgumentException {
        requireFleet();
        if (amount < 0 || amount > MAX_DEPOSIT) {
            throw new IllegalArgumentException("no such amount");
        }
        history.keep(state);
        int missing = state.account - amount;
        state.addEvent(DEPOSIT_EVENT, amount, state.account);
        state.account = 0;
        state.deposited += amount;
        state.shortage += missing;
        return missing;
    }

    public int undo() throws IllegalStateException {
        if (history.count == 0) {
            throw new IllegalStateException("nothing to undo");
        }
        state = history.takeBack(state);
        return history.count;
    }

    public int undoable() {
        return history.count;
    }

    public int save(int slot) throws IllegalStateException, IndexOutOfBoundsException {
        requireFleet();
        if (slot < 0 || slot >= SAVING_PLACES) {
            throw new IndexOutOfBoundsException("no such place");
        }
        savedStates[slot].copyFrom(state);
        isSaved[slot] = true;
        return state.day;
    }

    public int restore(int slot) throws IndexOutOfBoundsException, IllegalStateException {
        if (slot < 0 || slot >= SAVING_PLACES) {
            throw new IndexOutOfBoundsException("no such place");
        }
        if (!isSaved[slot]) {
            throw new IllegalStateException("nothing is saved there");
        }
        state.copyFrom(savedStates[slot]);
        history.count = 0;
        return state.day;
    }

    // ---- checks of arguments, each in the order of the document's exceptions

    private void requireFleet() {
        if (!hasFleet) {
            throw new IllegalStateException("no fleet");
        }
    }

    private Machine machineAt(int machine) {
        requireFleet();
        if (machine < 0 || machine >= state.machineCount) {
            throw new IndexOutOfBoundsException("no such machine");
        }
        return state.machines[machine];
    }

    private Slot slotAt(int machine, int slot) {
        Machine holder = machineAt(machine);
        if (slot < 0 || slot >= holder.slotCount) {
            throw new IndexOutOfBoundsException("no such slot");
        }
        return holder.slots[slot];
    }

    private void requireProduct(int product) {
        requireFleet();
        if (product < 0 || product >= fleet.productCount) {
            throw new IndexOutOfBoundsException("no such product");
        }
    }

    private void requireMix(int machine, int slot, int product, int rate) {
        slotAt(machine, slot);
        requireProduct(product);
        if (rate < 0 || rate > MAX_RATE) {
            throw new IllegalArgumentException("no such rate");
        }
    }

    private void requireDays(int n, int most) {
        requireFleet();
        if (n < 1 || n > most || state.day + n > LAST_DAY) {
            throw new IllegalArgumentException("no such number of days");
        }
    }

    private void planNextRoute() {
        requireFleet();
        planner.plan(fleet, state, state.day + 1);
    }

    /** What a text says and no day or change alters. */
    private static final class Fleet {
        // The depot stands at index 0 and machine m at m + 1, so that NONE finds the depot.
        final int[] x = new int[MAX_MACHINES + 1];
        final int[] y = new int[MAX_MACHINES + 1];
        int loadLimit;
        int visitMinutes;
        int alpha;
        int horizon;
        int productCount;
        final int[] price = new int[MAX_PRODUCTS];
        final int[] cost = new int[MAX_PRODUCTS];
        final int[] penalty = new int[MAX_PRODUCTS];
        final Rulebook rulebook = new Rulebook();

        int wayBetween(int machine, int other) {
            return Math.abs(x[machine + 1] - x[other + 1]) + Math.abs(y[machine + 1] - y[other + 1]);
        }
    }

    /**
     * The rules, in postfix order: a comparison pushes its answer, the other parts work on the answers pushed last.
     */
    private static final class Rulebook {
        static final int NOT = -1;
        static final int AND = -2;
        static final int OR = -3;
        static final int DAYS = 0;
        static final int CASH = 1;
        static final int WEEKDAY = 2;
        static final int VISITS = 3;
        static final int EMPTY = 4;
        static final int LESS = 0;
        static final int GREATER = 1;
        static final int EQUAL = 2;

        // Every part takes more than one byte of the text.
        final int[] parts = new int[BUFFER_BYTES];
        int partCount;
        final int[] ends = new int[MAX_RULES];
        int count;

        void addPart(int part) {
            if (partCount < BUFFER_BYTES) {
                parts[partCount] = part;
                partCount++;
            }
        }

        void addComparison(int value, int sign, int number) {
            addPart(value << 18 | sign << 16 | number);
        }

        void endRule() {
            if (count < MAX_RULES) {
                ends[count] = partCount;
                count++;
            }
        }

        boolean holds(int rule, Machine machine, int day) {
            // A bit for each answer, the last one lowest; nesting is at most ten deep, so they fit.
            int answers = 0;
            for (int i = rule == 0 ? 0 : ends[rule - 1]; i < ends[rule]; i++) {
                int part = parts[i];
                int last = answers & 1;
                if (part == NOT) {
                    answers ^= 1;
                } else if (part == AND) {
                    answers = answers >> 1 & (last | ~1);
                } else if (part == OR) {
                    answers = answers >> 1 | last;
                } else {
                    int value = machine.valueFor(part >> 18, day);
                    answers = answers << 1 | (isTrue(part, value) ? 1 : 0);
                }
            }
            return (answers & 1) == 1;
        }

        private static boolean isTrue(int comparison, int value) {
            int number = comparison & 0xffff;
            switch (comparison >> 16 & 3) {
                case LESS:
                    return value < number;
                case GREATER:
                    return value > number;
                default:
                    return value == number;
            }
        }
    }

    /** A slot with its counts and estimates. */
    private static final class Slot {
        int product;
        int capacity;
        int every;
        int stock;
        int rate;
        int sold;
        int filled;
        int returned;
        int lost;
        int pendingProduct;
        int pendingRate;
        int soldSinceRead;
        int sellingDaysSinceRead;
        float estimatedStock;
        float estimatedRate;

        void begin(int itsProduct, int itsCapacity, int itsStock, int itsRate, int itsEvery) {
            product = itsProduct;
            capacity = itsCapacity;
            every = itsEvery;
            stock = itsStock;
            rate = itsRate;
            sold = 0;
            filled = 0;
            returned = 0;
            lost = 0;
            pendingProduct = NONE;
            pendingRate = 0;
            soldSinceRead = 0;
            sellingDaysSinceRead = 0;
            estimatedStock = (float) itsStock;
            estimatedRate = (float) itsRate / 100f;
        }

        void copyFrom(Slot other) {
            product = other.product;
            capacity = other.capacity;
            every = other.every;
            stock = other.stock;
            rate = other.rate;
            sold = other.sold;
            filled = other.filled;
            returned = other.returned;
            lost = other.lost;
            pendingProduct = other.pendingProduct;
            pendingRate = other.pendingRate;
            soldSinceRead = other.soldSinceRead;
            sellingDaysSinceRead = other.sellingDaysSinceRead;
            estimatedStock = other.estimatedStock;
            estimatedRate = other.estimatedRate;
        }

        boolean isReportDay(int day) {
            return every > 0 && day % every == 0;
        }

        float estimatedShare() {
            return capacity > 0 ? estimatedStock / (float) capacity : 0f;
        }

        int demandOn(int day) {
            return day * rate / 100 - (day - 1) * rate / 100;
        }

        void readStock(int alpha) {
            if (sellingDaysSinceRead != 0) {
                float average = (float) soldSinceRead / (float) sellingDaysSinceRead;
                float weight = (float) alpha / 100f;
                estimatedRate = estimatedRate + (average - estimatedRate) * weight;
            }
            estimatedStock = (float) stock;
            soldSinceRead = 0;
            sellingDaysSinceRead = 0;
        }

        void forgetSales() {
            float rest = estimatedStock - estimatedRate;
            estimatedStock = rest < 0f ? 0f : rest;
        }

        void orderMix(int newProduct, int newRate) {
            pendingProduct = newProduct;
            pendingRate = newRate;
        }

        void executeMix() {
            returned += stock;
            stock = 0;
            product = pendingProduct;
            rate = pendingRate;
            estimatedRate = (float) pendingRate / 100f;
            pendingProduct = NONE;
        }
    }

    /** A machine with what days and changes alter. */
    private static final class Machine {
        int gapFrom;
        int gapUntil;
        boolean isForced;
        int cash;
        int visits;
        int latestVisit;
        int slotCount;
        final Slot[] slots;

        Machine() {
            slots = new Slot[MAX_SLOTS];
            for (int s = 0; s < MAX_SLOTS; s++) {
                slots[s] = new Slot();
            }
        }

        void begin() {
            gapFrom = 1;
            gapUntil = 0;
            isForced = false;
            cash = 0;
            visits = 0;
            latestVisit = NONE;
            slotCount = 0;
        }

        void copyFrom(Machine other) {
            gapFrom = other.gapFrom;
            gapUntil = other.gapUntil;
            isForced = other.isForced;
            cash = other.cash;
            visits = other.visits;
            latestVisit = other.latestVisit;
            slotCount = other.slotCount;
            for (int s = 0; s < slotCount; s++) {
                slots[s].copyFrom(other.slots[s]);
            }
        }

        boolean isSilentOn(int day) {
            return gapFrom <= day && day <= gapUntil;
        }

        int lostUnits() {
            int units = 0;
            for (int s = 0; s < slotCount; s++) {
                units += slots[s].lost;
            }
            return units;
        }

        boolean isUsedUpIn(int days) {
            for (int s = 0; s < slotCount; s++) {
                if (slots[s].estimatedStock - (float) days * slots[s].estimatedRate <= 0f) {
                    return true;
                }
            }
            return false;
        }

        float riskOfLoss(Fleet fleet) {
            float sum = 0f;
            for (int s = 0; s < slotCount; s++) {
                Slot slot = slots[s];
                float missing = slot.estimatedRate * (float) fleet.horizon - slot.estimatedStock;
                if (missing < 0f) {
                    missing = 0f;
                }
                sum += missing * (float) fleet.penalty[slot.product];
            }
            return sum;
        }

        boolean needsVisit(Fleet fleet, int level, int day) {
            if (isForced) {
                return true;
            }
            for (int s = 0; s < slotCount; s++) {
                Slot slot = slots[s];
                if (slot.pendingProduct != NONE
                        || slot.estimatedStock * 100f <= (float) (level * slot.capacity)) {
                    return true;
                }
            }
            for (int rule = 0; rule < fleet.rulebook.count; rule++) {
                if (fleet.rulebook.holds(rule, this, day)) {
                    return true;
                }
            }
            return false;
        }

        int valueFor(int value, int day) {
            switch (value) {
                case Rulebook.DAYS:
                    return latestVisit == NONE ? day : day - latestVisit;
                case Rulebook.CASH:
                    return cash / CENTS;
                case Rulebook.WEEKDAY:
                    return day % DAYS_OF_WEEK;
                case Rulebook.VISITS:
                    return visits;
                default:
                    return emptySlots();
            }
        }

        private int emptySlots() {
            int empty = 0;
            for (int s = 0; s < slotCount; s++) {
                if (slots[s].estimatedStock < 1f) {
                    empty++;
                }
            }
            return empty;
        }
    }

    /** Everything that days and changes alter. */
    private static final class State {
        int day;
        int level;
        int shift;
        int account;
        long deposited;
        long shortage;
        int drivenMinutes;
        int leftover;
        int lostUnits;
        int visitCount;
        long lostCost;
        long tradeGain;
        int machineCount;
        final Machine[] machines;
        int eventCount;
        final int[] events;

        State() {
            machines = new Machine[MAX_MACHINES];
            for (int m = 0; m < MAX_MACHINES; m++) {
                machines[m] = new Machine();
            }
            events = new int[MAX_EVENTS * EVENT_PARTS];
        }

        void begin() {
            day = 0;
            level = 0;
            shift = 0;
            account = 0;
            deposited = 0;
            shortage = 0;
            drivenMinutes = 0;
            leftover = 0;
            lostUnits = 0;
            visitCount = 0;
            lostCost = 0;
            tradeGain = 0;
            machineCount = 0;
            eventCount = 0;
        }

        void copyFrom(State other) {
            day = other.day;
            level = other.level;
            shift = other.shift;
            account = other.account;
            deposited = other.deposited;
            shortage = other.shortage;
            drivenMinutes = other.drivenMinutes;
            leftover = other.leftover;
            lostUnits = other.lostUnits;
            visitCount = other.visitCount;
            lostCost = other.lostCost;
            tradeGain = other.tradeGain;
            machineCount = other.machineCount;
            for (int m = 0; m < machineCount; m++) {
                machines[m].copyFrom(other.machines[m]);
            }
            eventCount = other.eventCount;
            System.arraycopy(other.events, 0, events, 0, eventCount * EVENT_PARTS);
        }

        void addEvent(int kind, int first, int second) {
            if (eventCount < MAX_EVENTS) {
                int at = eventCount * EVENT_PARTS;
                events[at] = day;
                events[at + 1] = kind;
                events[at + 2] = first;
                events[at + 3] = second;
                eventCount++;
            }
        }
    }

    /** The states before the latest changes, the oldest one first. */
    private static final class History {
        final State[] states;
        int count;

        History() {
            states = new State[MAX_CHANGES_KEPT];
            for (int i = 0; i < MAX_CHANGES_KEPT; i++) {
                states[i] = new State();
            }
        }

        void keep(State state) {
            if (count == MAX_CHANGES_KEPT) {
                dropOldest();
            }
            states[count].copyFrom(state);
            count++;
        }

        private void dropOldest() {
            State oldest = states[0];
            for (int i = 1; i < MAX_CHANGES_KEPT; i++) {
                states[i - 1] = states[i];
            }
            states[MAX_CHANGES_KEPT - 1] = oldest;
            count--;
        }

        /** Answers the state before the latest change, and takes the present one for a later copy. */
        State takeBack(State present) {
            if (count == 0) {
                return present;
            }
            count--;
            State earlier = states[count];
            states[count] = present;
            return earlier;
        }
    }

    /** The route planned last, and the units loaded for it. */
    private static final class Planner {
        final int[] route = new int[MAX_MACHINES];
        int length;
        int routeTime;
        final int[] loaded = new int[MAX_PRODUCTS];
        private final int[] due = new int[MAX_MACHINES];
        private int dueCount;
        private final float[] risks = new float[MAX_MACHINES];

        void plan(Fleet fleet, State state, int day) {
            dueCount = 0;
            for (int m = 0; m < state.machineCount; m++) {
                if (state.machines[m].needsVisit(fleet, state.level, day)) {
                    risks[m] = state.machines[m].riskOfLoss(fleet);
                    queue(state, m);
                }
            }
            length = 0;
            routeTime = 0;
            for (int i = 0; i < dueCount; i++) {
                insert(fleet, state.shift, due[i]);
            }
            int reversals = 0;
            while (reversals < MAX_REVERSALS && reverseOnce(fleet)) {
                reversals++;
            }
            loadUnits(fleet, state);
        }

        // Machines are queued by their numbers, so one that is equal stays behind those before it.
        private void queue(State state, int machine) {
            int place = dueCount;
            while (place > 0 && isMoreUrgent(state, machine, due[place - 1])) {
                due[place] = due[place - 1];
                place--;
            }
            due[place] = machine;
            dueCount++;
        }

        private boolean isMoreUrgent(State state, int machine, int other) {
            boolean isForced = state.machines[machine].isForced;
            if (isForced != state.machines[other].isForced) {
                return isForced;
            }
            return risks[machine] > risks[other];
        }

        private void insert(Fleet fleet, int shift, int machine) {
            int best = 0;
            int least = 0;
            for (int place = 0; place <= length; place++) {
                int before = machineAtPlace(place - 1);
                int after = machineAtPlace(place);
                int more = fleet.wayBetween(before, machine) + fleet.wayBetween(machine, after)
                        - fleet.wayBetween(before, after);
                if (place == 0 || more < least) {
                    best = place;
                    least = more;
                }
            }
            int time = routeTime + least + fleet.visitMinutes;
            if (time > shift) {
                return;
            }
            for (int place = length; place > best; place--) {
                route[place] = route[place - 1];
            }
            route[best] = machine;
            length++;
            routeTime = time;
        }

        /** The machine at a place of the route; beyond both ends of it is the depot. */
        private int machineAtPlace(int place) {
            return place < 0 || place >= length ? NONE : route[place];
        }

        private boolean reverseOnce(Fleet fleet) {
            for (int i = 0; i < length; i++) {
                for (int j = i + 1; j < length; j++) {
                    int before = machineAtPlace(i - 1);
                    int after = machineAtPlace(j + 1);
                    int saved = fleet.wayBetween(before, route[i]) + fleet.wayBetween(route[j], after)
                            - fleet.wayBetween(before, route[j]) - fleet.wayBetween(route[i], after);
                    if (saved > 0) {
                        reverse(i, j);
                        routeTime -= saved;
                        return true;
                    }
                }
            }
            return false;
        }

        private void reverse(int first, int last) {
            int i = first;
            int j = last;
            while (i < j) {
                int machine = route[i];
                route[i] = route[j];
                route[j] = machine;
                i++;
                j--;
            }
        }

        private void loadUnits(Fleet fleet, State state) {
            Arrays.fill(loaded, 0);
            int room = fleet.loadLimit;
            for (int place = 0; place < length; place++) {
                Machine machine = state.machines[route[place]];
                for (int s = 0; s < machine.slotCount; s++) {
                    Slot slot = machine.slots[s];
                    boolean isPending = slot.pendingProduct != NONE;
                    int product = isPending ? slot.pendingProduct : slot.product;
                    int wanted = isPending ? slot.capacity : slot.capacity - (int) slot.estimatedStock;
                    int units = Math.min(wanted, room);
                    loaded[product] += units;
                    room -= units;
                }
            }
        }

        int takeUnits(int product, int most) {
            int units = Math.min(most, loaded[product]);
            loaded[product] -= units;
            return units;
        }

        int unitsLeft() {
            int units = 0;
            for (int p = 0; p < MAX_PRODUCTS; p++) {
                units += loaded[p];
            }
            return units;
        }
    }

    /** Lets days pass. */
    private static final class Simulator {
        private final Planner planner;

        Simulator(Planner itsPlanner) {
            planner = itsPlanner;
        }

        void passDays(Fleet fleet, State state, int n) {
            for (int i = 0; i < n; i++) {
                state.day++;
                planner.plan(fleet, state, state.day);
                state.drivenMinutes += planner.routeTime;
                for (int m = 0; m < state.machineCount; m++) {
                    state.machines[m].isForced = false;
                }
                for (int place = 0; place < planner.length; place++) {
                    visit(fleet, state, planner.route[place]);
                }
                state.leftover += planner.unitsLeft();
                for (int m = 0; m < state.machineCount; m++) {
                    endDay(fleet, state, state.machines[m]);
                }
            }
        }

        private void visit(Fleet fleet, State state, int number) {
            Machine machine = state.machines[number];
            int filled = 0;
            for (int s = 0; s < machine.slotCount; s++) {
                Slot slot = machine.slots[s];
                slot.readStock(fleet.alpha);
                if (slot.pendingProduct != NONE) {
                    state.tradeGain += (long) slot.stock * fleet.cost[slot.product];
                    slot.executeMix();
                    state.addEvent(MIX_EVENT, number, s);
                }
                int units = planner.takeUnits(slot.product, slot.capacity - slot.stock);
                slot.stock += units;
                slot.filled += units;
                slot.estimatedStock = (float) slot.stock;
                state.tradeGain -= (long) units * fleet.cost[slot.product];
                filled += units;
            }
            state.account += machine.cash;
            machine.cash = 0;
            machine.visits++;
            machine.latestVisit = state.day;
            state.visitCount++;
            state.addEvent(VISIT_EVENT, number, filled);
        }

        // No slot's evening depends on another slot's, so each one goes through it at once.
        private void endDay(Fleet fleet, State state, Machine machine) {
            boolean isSilent = machine.isSilentOn(state.day);
            for (int s = 0; s < machine.slotCount; s++) {
                Slot slot = machine.slots[s];
                sell(fleet, state, machine, slot);
                slot.forgetSales();
                if (!isSilent && slot.isReportDay(state.day)) {
                    slot.readStock(fleet.alpha);
                }
            }
        }

        private void sell(Fleet fleet, State state, Machine machine, Slot slot) {
            // A slot without a unit could not sell on this day, so the day says nothing about its rate.
            if (slot.stock > 0) {
                slot.sellingDaysSinceRead++;
            }
            int demand = slot.demandOn(state.day);
            int sold = Math.min(demand, slot.stock);
            slot.stock -= sold;
            slot.sold += sold;
            slot.soldSinceRead += sold;
            machine.cash += sold * fleet.price[slot.product];
            state.tradeGain += (long) sold * fleet.price[slot.product];
            int lost = demand - sold;
            slot.lost += lost;
            state.lostUnits += lost;
            state.lostCost += (long) lost * fleet.penalty[slot.product];
        }
    }

    /** Cuts a text into tokens; the present one is described by the fields. */
    private static final class Scanner {
        static final int END = 0;
        static final int WORD = 1;
        static final int NUMBER = 2;
        static final int SIGN = 3;
        static final int BAD = 4;
        private static final int MAX_LETTERS = 9;
        private static final int MAX_DIGITS = 5;
        private static final String SIGNS = ";()<>=";

        private byte[] text = new byte[0];
        private int textLength;
        private int next;
        int kind;
        int start;
        int number;

        void begin(byte[] itsText, int itsLength) {
            text = itsText;
            textLength = Math.min(itsLength, itsText.length);
            next = 0;
            step();
        }

        void step() {
            while (next < textLength && text[next] == ' ') {
                next++;
            }
            start = next;
            if (next >= textLength) {
                kind = END;
            } else if (isLetter(text[next])) {
                while (next < textLength && isLetter(text[next])) {
                    next++;
                }
                kind = next - start > MAX_LETTERS ? BAD : WORD;
            } else if (isDigit(text[next])) {
                number = 0;
                while (next < textLength && isDigit(text[next])) {
                    number = 10 * number + text[next] - '0';
                    next++;
                }
                kind = next - start > MAX_DIGITS ? BAD : NUMBER;
            } else {
                kind = SIGNS.indexOf((char) (text[next] & 0xff)) >= 0 ? SIGN : BAD;
                next++;
            }
        }

        private static boolean isLetter(byte sign) {
            return sign >= 'a' && sign <= 'z';
        }

        private static boolean isDigit(byte sign) {
            return sign >= '0' && sign <= '9';
        }

        boolean isSign(char sign) {
            return kind == SIGN && start < textLength && text[start] == sign;
        }

        boolean isWord(String word) {
            if (kind != WORD || next - start != word.length()) {
                return false;
            }
            for (int i = 0; i < word.length(); i++) {
                if (text[start + i] != word.charAt(i)) {
                    return false;
                }
            }
            return true;
        }
    }

    /** Reads a fleet and its first state from a text. */
    private static final class Parser {
        private static final int NOT_ALLOWED = 1;
        private static final int OUT_OF_BOUNDS = 2;
        private static final int SLOT_WITHOUT_MACHINE = 3;
        private static final int TOO_MANY = 4;
        private static final int NO_MACHINE = 5;
        private static final int TOO_DEEP = 6;
        private static final int MAX_COMPARED_NUMBER = 9999;

        private final Scanner scanner = new Scanner();
        private Fleet fleet;
        private State state;
        int error = 0;
        int position = NONE;

        void parseText(byte[] text, int length, Fleet intoFleet, State intoState) {
            error = 0;
            position = NONE;
            fleet = intoFleet;
            state = intoState;
            scanner.begin(text, length);
            fleetLine();
            for (int lines = 0; lines < BUFFER_BYTES && scanner.isSign(';'); lines++) {
                scanner.step();
                if (scanner.isWord("product")) {
                    productLine();
                } else if (scanner.isWord("machine")) {
                    machineLine();
                } else if (scanner.isWord("slot")) {
                    slotLine();
                } else if (scanner.isWord("rule")) {
                    ruleLine();
                } else {
                    fail(NOT_ALLOWED);
                }
            }
            if (scanner.kind != Scanner.END) {
                fail(NOT_ALLOWED);
            }
            if (state.machineCount == 0) {
                fail(NO_MACHINE);
            }
        }

        private void fail(int code) {
            error = code;
            position = scanner.start;
            throw new IllegalArgumentException("the text has an error");
        }

        private void word(String expected) {
            if (!scanner.isWord(expected)) {
                fail(NOT_ALLOWED);
            }
            scanner.step();
        }

        private int number(int least, int most) {
            if (scanner.kind != Scanner.NUMBER) {
                fail(NOT_ALLOWED);
            }
            int value = scanner.number;
            if (value < least || value > most) {
                fail(OUT_OF_BOUNDS);
            }
            scanner.step();
            return value;
        }

        private void fleetLine() {
            fleet.productCount = 0;
            fleet.rulebook.count = 0;
            fleet.rulebook.partCount = 0;
            state.begin();
            word("fleet");
            place(0);
            word("shift");
            state.shift = number(1, MAX_SHIFT);
            word("load");
            fleet.loadLimit = number(0, 9999);
            word("visit");
            fleet.visitMinutes = number(0, 99);
            word("alpha");
            fleet.alpha = number(0, 100);
            word("level");
            state.level = number(0, MAX_LEVEL);
            word("horizon");
            fleet.horizon = number(1, 30);
        }

        private void place(int index) {
            fleet.x[index] = number(0, 99);
            fleet.y[index] = number(0, 99);
        }

        private void productLine() {
            int product = fleet.productCount;
            if (product >= MAX_PRODUCTS) {
                fail(TOO_MANY);
            }
            scanner.step();
            fleet.price[product] = number(1, 999);
            fleet.cost[product] = number(0, 999);
            fleet.penalty[product] = number(0, 999);
            fleet.productCount++;
        }

        private void machineLine() {
            int count = state.machineCount;
            if (count >= MAX_MACHINES) {
                fail(TOO_MANY);
            }
            scanner.step();
            place(count + 1);
            Machine machine = state.machines[count];
            machine.begin();
            state.machineCount++;
            if (scanner.isWord("gap")) {
                scanner.step();
                machine.gapFrom = number(0, MAX_GAP_DAY);
                machine.gapUntil = number(machine.gapFrom, MAX_GAP_DAY);
            }
        }

        private void slotLine() {
            if (state.machineCount == 0) {
                fail(SLOT_WITHOUT_MACHINE);
            }
            Machine machine = state.machines[state.machineCount - 1];
            if (machine.slotCount >= MAX_SLOTS) {
                fail(TOO_MANY);
            }
            scanner.step();
            int product = number(0, fleet.productCount - 1);
            int capacity = number(1, 99);
            int stock = number(0, capacity);
            int rate = number(0, MAX_RATE);
            int every = 1;
            if (scanner.isWord("every")) {
                scanner.step();
                every = number(1, 30);
            }
            machine.slots[machine.slotCount].begin(product, capacity, stock, rate, every);
            machine.slotCount++;
        }

        private void ruleLine() {
            if (fleet.rulebook.count >= MAX_RULES) {
                fail(TOO_MANY);
            }
            scanner.step();
            test(0);
            fleet.rulebook.endRule();
        }

        /** A test whose units are inside so many others. */
        private void test(int outerUnits) {
            unit(outerUnits);
            for (int units = 1; units < BUFFER_BYTES; units++) {
                boolean isAnd = scanner.isWord("and");
                if (!isAnd && !scanner.isWord("or")) {
                    return;
                }
                scanner.step();
                unit(outerUnits);
                fleet.rulebook.addPart(isAnd ? Rulebook.AND : Rulebook.OR);
            }
        }

        private void unit(int outerUnits) {
            boolean isNot = scanner.isWord("not");
            boolean isOpen = scanner.isSign('(');
            int value = valueNamed();
            if (!isNot && !isOpen && value == NONE) {
                fail(NOT_ALLOWED);
            }
            if (outerUnits > MAX_OUTER_UNITS) {
                fail(TOO_DEEP);
            }
            scanner.step();
            if (isNot) {
                unit(outerUnits + 1);
                fleet.rulebook.addPart(Rulebook.NOT);
            } else if (isOpen) {
                test(outerUnits + 1);
                if (!scanner.isSign(')')) {
                    fail(NOT_ALLOWED);
                }
                scanner.step();
            } else {
                int sign = signNamed();
                if (sign == NONE) {
                    fail(NOT_ALLOWED);
                }
                scanner.step();
                int number = number(0, MAX_COMPARED_NUMBER);
                fleet.rulebook.addComparison(value, sign, number);
            }
        }

        private int valueNamed() {
            if (scanner.isWord("days")) {
                return Rulebook.DAYS;
            }
            if (scanner.isWord("cash")) {
                return Rulebook.CASH;
            }
            if (scanner.isWord("weekday")) {
                return Rulebook.WEEKDAY;
            }
            if (scanner.isWord("visits")) {
                return Rulebook.VISITS;
            }
            return scanner.isWord("empty") ? Rulebook.EMPTY : NONE;
        }

        private int signNamed() {
            if (scanner.isSign('<')) {
                return Rulebook.LESS;
            }
            if (scanner.isSign('>')) {
                return Rulebook.GREATER;
            }
            return scanner.isSign('=') ? Rulebook.EQUAL : NONE;
        }
    }
}
