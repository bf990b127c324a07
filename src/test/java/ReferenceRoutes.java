import java.nio.charset.StandardCharsets;
import java.util.ArrayDeque;
import java.util.ArrayList;
import java.util.Arrays;
import java.util.Comparator;
import java.util.Deque;
import java.util.List;
import java.util.regex.Matcher;
import java.util.regex.Pattern;

/**
 * The document once more, written for plainness with the whole Java library, for RandomRunsTest to compare with.
 * It shares no code and no way of computing with the program: texts are cut by regular expressions, rules are trees,
 * routes are lists whose minutes are always counted anew, and states are copied whole.
 */
public final class ReferenceRoutes {
    interface Condition {
        boolean holds(Mach m, int day);
    }

    record Token(String text, int at) {
        boolean isNumber() {
            return text.matches("[0-9]{1,5}");
        }
    }

    record Product(int price, int cost, int penalty) {
    }

    record Event(int day, int kind, int first, int second) {
        int part(int what) {
            return List.of(day, kind, first, second).get(what);
        }
    }

    static final class TextError extends RuntimeException {
        final int code;
        final int at;

        TextError(int code, int at) {
            this.code = code;
            this.at = at;
        }
    }

    static final class Place implements Cloneable {
        int product, capacity, stock, rate, every = 1;
        int sold, filled, returned, lost, pending = -1, pendingRate;
        int soldSince, daysSince;
        float estimate, estimatedRate;

        Place copy() {
            try {
                return (Place) clone();
            } catch (CloneNotSupportedException e) {
                throw new AssertionError(e);
            }
        }

        void read(int alpha) {
            if (daysSince != 0) {
                float a = (float) alpha / 100;
                estimatedRate = estimatedRate + ((float) soldSince / (float) daysSince - estimatedRate) * a;
            }
            estimate = stock;
            soldSince = 0;
            daysSince = 0;
        }
    }

    static final class Mach {
        int x, y, from = 1, until = 0, cash, visits, last = -1;
        boolean forced;
        List<Place> places = new ArrayList<>();

        Mach copy() {
            Mach m = new Mach();
            m.x = x;
            m.y = y;
            m.from = from;
            m.until = until;
            m.cash = cash;
            m.visits = visits;
            m.last = last;
            m.forced = forced;
            for (Place p : places) {
                m.places.add(p.copy());
            }
            return m;
        }

        int lost() {
            return places.stream().mapToInt(p -> p.lost).sum();
        }
    }

    static final class St {
        int x, y, loadLimit, visit, alpha, horizon, level, shift;
        List<Product> products = new ArrayList<>();
        List<Condition> rules = new ArrayList<>();
        List<Mach> machs = new ArrayList<>();
        List<Event> events = new ArrayList<>();
        int day, account, minutes, leftover;
        long deposited, shortage, lostCost, income, spent, refunded;

        St copy() {
            St s = new St();
            s.x = x;
            s.y = y;
            s.loadLimit = loadLimit;
            s.visit = visit;
            s.alpha = alpha;
            s.horizon = horizon;
            s.level = level;
            s.shift = shift;
            s.products = products;
            s.rules = rules;
            for (Mach m : machs) {
                s.machs.add(m.copy());
            }
            s.events.addAll(events);
            s.day = day;
            s.account = account;
            s.minutes = minutes;
            s.leftover = leftover;
            s.deposited = deposited;
            s.shortage = shortage;
            s.lostCost = lostCost;
            s.income = income;
            s.spent = spent;
            s.refunded = refunded;
            return s;
        }

        long profit() {
            return income - spent + refunded - lostCost;
        }

        int lost() {
            return machs.stream().mapToInt(Mach::lost).sum();
        }

        int visits() {
            return machs.stream().mapToInt(m -> m.visits).sum();
        }

        void log(int kind, int first, int second) {
            if (events.size() < 300) {
                events.add(new Event(day, kind, first, second));
            }
        }

        int minutesOf(List<Integer> route) {
            if (route.isEmpty()) {
                return 0;
            }
            int sum = 0;
            int atX = x;
            int atY = y;
            for (int n : route) {
                Mach m = machs.get(n);
                sum += Math.abs(m.x - atX) + Math.abs(m.y - atY) + visit;
                atX = m.x;
                atY = m.y;
            }
            return sum + Math.abs(x - atX) + Math.abs(y - atY);
        }

        boolean due(Mach m, int day) {
            boolean due = m.forced;
            for (Place p : m.places) {
                due |= p.pending >= 0;
                due |= p.estimate * 100f <= (float) (level * p.capacity);
            }
            for (Condition rule : rules) {
                due |= rule.holds(m, day);
            }
            return due;
        }

        float risk(Mach m) {
            float sum = 0;
            for (Place p : m.places) {
                float missing = p.estimatedRate * (float) horizon - p.estimate;
                sum = sum + (missing > 0 ? missing : 0f) * (float) products.get(p.product).penalty();
            }
            return sum;
        }

        List<Integer> route(int day) {
            List<Integer> due = new ArrayList<>();
            for (int m = 0; m < machs.size(); m++) {
                if (due(machs.get(m), day)) {
                    due.add(m);
                }
            }
            Comparator<Integer> byForce = Comparator.comparing(m -> machs.get(m).forced ? 0 : 1);
            Comparator<Integer> byRisk = Comparator.comparing(m -> -risk(machs.get(m)));
            due.sort(byForce.thenComparing(byRisk).thenComparing(m -> m));
            List<Integer> route = new ArrayList<>();
            for (int m : due) {
                List<Integer> best = null;
                for (int place = 0; place <= route.size(); place++) {
                    List<Integer> tried = new ArrayList<>(route);
                    tried.add(place, m);
                    if (best == null || minutesOf(tried) < minutesOf(best)) {
                        best = tried;
                    }
                }
                if (minutesOf(best) <= shift) {
                    route = best;
                }
            }
            List<Integer> better = improved(route);
            while (better != null) {
                route = better;
                better = improved(route);
            }
            return route;
        }

        private List<Integer> improved(List<Integer> route) {
            for (int i = 0; i < route.size(); i++) {
                for (int j = i + 1; j < route.size(); j++) {
                    List<Integer> tried = new ArrayList<>(route);
                    java.util.Collections.reverse(tried.subList(i, j + 1));
                    if (minutesOf(tried) < minutesOf(route)) {
                        return tried;
                    }
                }
            }
            return null;
        }

        int[] cargo(List<Integer> route) {
            int[] units = new int[6];
            for (int m : route) {
                for (Place p : machs.get(m).places) {
                    int wanted = p.pending >= 0 ? p.capacity : p.capacity - (int) Math.floor(p.estimate);
                    int product = p.pending >= 0 ? p.pending : p.product;
                    for (int u = 0; u < wanted && Arrays.stream(units).sum() < loadLimit; u++) {
                        units[product]++;
                    }
                }
            }
            return units;
        }

        void passDay() {
            day++;
            List<Integer> route = route(day);
            int[] cargo = cargo(route);
            minutes += minutesOf(route);
            machs.forEach(m -> m.forced = false);
            for (int n : route) {
                visit(n, cargo);
            }
            leftover += Arrays.stream(cargo).sum();
            for (Mach m : machs) {
                for (Place p : m.places) {
                    sell(m, p);
                }
            }
            for (Mach m : machs) {
                for (Place p : m.places) {
                    p.estimate = Math.max(p.estimate - p.estimatedRate, 0f);
                }
            }
            for (Mach m : machs) {
                for (Place p : m.places) {
                    if (reports(m, p, day)) {
                        p.read(alpha);
                    }
                }
            }
        }

        static boolean reports(Mach m, Place p, int day) {
            boolean silent = day >= m.from && day <= m.until;
            return !silent && day % p.every == 0;
        }

        private void visit(int n, int[] cargo) {
            Mach m = machs.get(n);
            int sum = 0;
            for (int s = 0; s < m.places.size(); s++) {
                Place p = m.places.get(s);
                p.read(alpha);
                if (p.pending >= 0) {
                    p.returned += p.stock;
                    refunded += (long) p.stock * products.get(p.product).cost();
                    p.stock = 0;
                    p.product = p.pending;
                    p.rate = p.pendingRate;
                    p.estimatedRate = (float) p.rate / 100;
                    p.pending = -1;
                    log(1, n, s);
                }
                while (p.stock < p.capacity && cargo[p.product] > 0) {
                    p.stock++;
                    p.filled++;
                    cargo[p.product]--;
                    spent += products.get(p.product).cost();
                    sum++;
                }
                p.estimate = p.stock;
            }
            account += m.cash;
            m.cash = 0;
            m.visits++;
            m.last = day;
            log(0, n, sum);
        }

        private void sell(Mach m, Place p) {
            int demand = Math.floorDiv(day * p.rate, 100) - Math.floorDiv((day - 1) * p.rate, 100);
            if (p.stock > 0) {
                p.daysSince++;
            }
            for (int u = 0; u < demand; u++) {
                if (p.stock > 0) {
                    p.stock--;
                    p.sold++;
                    p.soldSince++;
                    m.cash += products.get(p.product).price();
                    income += products.get(p.product).price();
                } else {
                    p.lost++;
                    lostCost += products.get(p.product).penalty();
                }
            }
        }

        St after(int n) {
            St s = copy();
            for (int i = 0; i < n; i++) {
                s.passDay();
            }
            return s;
        }
    }

    static final class Reader {
        private static final Pattern PART = Pattern.compile("[a-z]+|[0-9]+|[^ ]", Pattern.DOTALL);
        private final List<Token> tokens = new ArrayList<>();
        private int next = 0;
        final St s = new St();

        Reader(String text) {
            Matcher m = PART.matcher(text);
            while (m.find()) {
                tokens.add(new Token(m.group(), m.start()));
            }
            tokens.add(new Token("", text.length()));
        }

        private Token peek() {
            return tokens.get(next);
        }

        private boolean at(String literal) {
            return peek().text().equals(literal);
        }

        private TextError error(int code) {
            return new TextError(code, peek().at());
        }

        private void take(String literal) {
            if (!at(literal)) {
                throw error(1);
            }
            next++;
        }

        private boolean takeIf(String literal) {
            if (at(literal)) {
                next++;
                return true;
            }
            return false;
        }

        private int takeNumber(int least, int most) {
            if (!peek().isNumber()) {
                throw error(1);
            }
            int n = Integer.parseInt(peek().text());
            if (n < least || n > most) {
                throw error(2);
            }
            next++;
            return n;
        }

        St read() {
            take("fleet");
            s.x = takeNumber(0, 99);
            s.y = takeNumber(0, 99);
            take("shift");
            s.shift = takeNumber(1, 999);
            take("load");
            s.loadLimit = takeNumber(0, 9999);
            take("visit");
            s.visit = takeNumber(0, 99);
            take("alpha");
            s.alpha = takeNumber(0, 100);
            take("level");
            s.level = takeNumber(0, 100);
            take("horizon");
            s.horizon = takeNumber(1, 30);
            while (takeIf(";")) {
                readLine();
            }
            if (!at("")) {
                throw error(1);
            }
            if (s.machs.isEmpty()) {
                throw error(5);
            }
            return s;
        }

        private void readLine() {
            switch (peek().text()) {
                case "product" -> {
                    refuseIf(s.products.size() == 6, 4);
                    next++;
                    int price = takeNumber(1, 999);
                    int cost = takeNumber(0, 999);
                    s.products.add(new Product(price, cost, takeNumber(0, 999)));
                }
                case "machine" -> {
                    refuseIf(s.machs.size() == 8, 4);
                    next++;
                    Mach m = new Mach();
                    m.x = takeNumber(0, 99);
                    m.y = takeNumber(0, 99);
                    if (takeIf("gap")) {
                        m.from = takeNumber(0, 9999);
                        m.until = takeNumber(m.from, 9999);
                    }
                    s.machs.add(m);
                }
                case "slot" -> {
                    refuseIf(s.machs.isEmpty(), 3);
                    Mach m = s.machs.get(s.machs.size() - 1);
                    refuseIf(m.places.size() == 5, 4);
                    next++;
                    Place p = new Place();
                    p.product = takeNumber(0, s.products.size() - 1);
                    p.capacity = takeNumber(1, 99);
                    p.stock = takeNumber(0, p.capacity);
                    p.rate = takeNumber(0, 2000);
                    if (takeIf("every")) {
                        p.every = takeNumber(1, 30);
                    }
                    p.estimate = p.stock;
                    p.estimatedRate = (float) p.rate / 100;
                    m.places.add(p);
                }
                case "rule" -> {
                    refuseIf(s.rules.size() == 4, 4);
                    next++;
                    s.rules.add(readTest(0));
                }
                default -> throw error(1);
            }
        }

        private void refuseIf(boolean wrong, int code) {
            if (wrong) {
                throw error(code);
            }
        }

        private Condition readTest(int outside) {
            Condition left = readUnit(outside);
            while (at("and") || at("or")) {
                boolean both = at("and");
                next++;
                Condition first = left;
                Condition second = readUnit(outside);
                left = both ? (m, day) -> first.holds(m, day) && second.holds(m, day)
                        : (m, day) -> first.holds(m, day) || second.holds(m, day);
            }
            return left;
        }

        private Condition readUnit(int outside) {
            if (!List.of("not", "(", "days", "cash", "weekday", "visits", "empty").contains(peek().text())) {
                throw error(1);
            }
            refuseIf(outside == 10, 6);
            if (takeIf("not")) {
                Condition inner = readUnit(outside + 1);
                return (m, day) -> !inner.holds(m, day);
            }
            if (takeIf("(")) {
                Condition inner = readTest(outside + 1);
                take(")");
                return inner;
            }
            String value = peek().text();
            next++;
            String sign = peek().text();
            if (!List.of("<", ">", "=").contains(sign)) {
                throw error(1);
            }
            next++;
            int number = takeNumber(0, 9999);
            return (m, day) -> {
                int compared = Integer.compare(valueOf(value, m, day), number);
                return sign.equals("<") ? compared < 0 : sign.equals(">") ? compared > 0 : compared == 0;
            };
        }

        private static int valueOf(String value, Mach m, int day) {
            return switch (value) {
                case "days" -> day - Math.max(m.last, 0);
                case "cash" -> m.cash / 100;
                case "weekday" -> day % 7;
                case "visits" -> m.visits;
                default -> (int) m.places.stream().filter(p -> p.estimate < 1).count();
            };
        }
    }

    private byte[] buffer = new byte[0];
    private int error = 0;
    private int errorAt = -1;
    private St s = null;
    private final Deque<St> before = new ArrayDeque<>();
    private final St[] saved = new St[2];
    private String text = "";

    public int append(int a, int b, int c, int d, int e) {
        if (buffer.length + 20 > 1200) {
            return -1;
        }
        java.nio.ByteBuffer more = java.nio.ByteBuffer.allocate(buffer.length + 20);
        more.put(buffer).putInt(a).putInt(b).putInt(c).putInt(d).putInt(e);
        buffer = more.array();
        return buffer.length;
    }

    public int load(int n) {
        if (n < 0 || n > buffer.length) {
            throw new IndexOutOfBoundsException();
        }
        String read = new String(buffer, 0, n, StandardCharsets.ISO_8859_1);
        buffer = new byte[0];
        try {
            s = new Reader(read).read();
        } catch (TextError e) {
            error = e.code;
            errorAt = e.at;
            throw new IllegalArgumentException();
        }
        error = 0;
        errorAt = -1;
        before.clear();
        Arrays.fill(saved, null);
        return s.machs.size();
    }

    public int parseError() {
        return error;
    }

    public int errorPosition() {
        return errorAt;
    }

    public int buffered() {
        return buffer.length;
    }

    public int day() {
        return s == null ? 0 : s.day;
    }

    public int machines() {
        return s == null ? 0 : s.machs.size();
    }

    public int products() {
        return s == null ? 0 : s.products.size();
    }

    public int rules() {
        return s == null ? 0 : s.rules.size();
    }

    private void fleet() {
        if (s == null) {
            throw new IllegalStateException();
        }
    }

    private static void index(int i, int size) {
        if (i < 0 || i >= size) {
            throw new IndexOutOfBoundsException();
        }
    }

    private static void range(long value, long least, long most) {
        if (value < least || value > most) {
            throw new IllegalArgumentException();
        }
    }

    private void days(int n, int most) {
        range(n, 1, most);
        range(s.day + n, 0, 2000);
    }

    private Mach mach(int machine) {
        fleet();
        index(machine, s.machs.size());
        return s.machs.get(machine);
    }

    private Place place(int machine, int slot) {
        Mach m = mach(machine);
        index(slot, m.places.size());
        return m.places.get(slot);
    }

    public int slots(int machine) {
        return mach(machine).places.size();
    }

    public int productOf(int machine, int slot) {
        return place(machine, slot).product;
    }

    public int stockOf(int machine, int slot) {
        return place(machine, slot).stock;
    }

    public int soldOf(int machine, int slot) {
        return place(machine, slot).sold;
    }

    public int filledOf(int machine, int slot) {
        return place(machine, slot).filled;
    }

    public int returnedOf(int machine, int slot) {
        return place(machine, slot).returned;
    }

    public int lostOf(int machine, int slot) {
        return place(machine, slot).lost;
    }

    public int pendingOf(int machine, int slot) {
        return place(machine, slot).pending;
    }

    public float estimateOf(int machine, int slot) {
        return place(machine, slot).estimate;
    }

    public float rateOf(int machine, int slot) {
        return place(machine, slot).estimatedRate;
    }

    public boolean reports(int machine, int slot, int day) {
        Place p = place(machine, slot);
        range(day, 1, 2000);
        return St.reports(s.machs.get(machine), p, day);
    }

    public float risk(int machine) {
        Mach m = mach(machine);
        return s.risk(m);
    }

    public boolean isDue(int machine) {
        Mach m = mach(machine);
        return s.due(m, s.day + 1);
    }

    public boolean isRuleMet(int rule, int machine) {
        fleet();
        index(rule, s.rules.size());
        return s.rules.get(rule).holds(mach(machine), s.day + 1);
    }

    public int daysLeft(int machine) {
        Mach m = mach(machine);
        int least = 99;
        for (Place p : m.places) {
            int d = 0;
            while (d < 99 && !(p.estimate - (float) d * p.estimatedRate <= 0)) {
                d++;
            }
            least = Math.min(least, d);
        }
        return least;
    }

    public int cashIn(int machine) {
        return mach(machine).cash;
    }

    public int visitsOf(int machine) {
        return mach(machine).visits;
    }

    public int lastVisit(int machine) {
        return mach(machine).last;
    }

    public int lowestSlot(int rank) {
        fleet();
        List<Integer> all = new ArrayList<>();
        for (int m = 0; m < s.machs.size(); m++) {
            for (int i = 0; i < s.machs.get(m).places.size(); i++) {
                all.add(10 * m + i);
            }
        }
        index(rank, all.size());
        all.sort((a, b) -> Float.compare(share(a), share(b)));
        return all.get(rank);
    }

    private float share(int code) {
        Place p = s.machs.get(code / 10).places.get(code % 10);
        return p.estimate / (float) p.capacity;
    }

    public int stockOfProduct(int product) {
        fleet();
        index(product, s.products.size());
        return s.machs.stream().flatMap(m -> m.places.stream()).filter(p -> p.product == product)
                .mapToInt(p -> p.stock).sum();
    }

    public int worst(int rank) {
        fleet();
        index(rank, s.machs.size());
        List<Mach> all = new ArrayList<>(s.machs);
        all.sort(Comparator.<Mach>comparingInt(m -> -m.lost()).thenComparingInt(m -> m.visits));
        return s.machs.indexOf(all.get(rank));
    }

    public int routeLength() {
        fleet();
        return s.route(s.day + 1).size();
    }

    public int routeAt(int place) {
        fleet();
        List<Integer> route = s.route(s.day + 1);
        index(place, route.size());
        return route.get(place);
    }

    public int routeMinutes() {
        fleet();
        return s.minutesOf(s.route(s.day + 1));
    }

    public int plannedLoad(int product) {
        fleet();
        index(product, s.products.size());
        return s.cargo(s.route(s.day + 1))[product];
    }

    public int minutesBetween(int machine, int other) {
        fleet();
        for (int m : new int[] {machine, other}) {
            if (m != -1) {
                index(m, s.machs.size());
            }
        }
        int x1 = machine < 0 ? s.x : s.machs.get(machine).x;
        int y1 = machine < 0 ? s.y : s.machs.get(machine).y;
        int x2 = other < 0 ? s.x : s.machs.get(other).x;
        int y2 = other < 0 ? s.y : s.machs.get(other).y;
        return Math.abs(x1 - x2) + Math.abs(y1 - y2);
    }

    public int account() {
        return s == null ? 0 : s.account;
    }

    public long deposited() {
        return s == null ? 0 : s.deposited;
    }

    public long shortage() {
        return s == null ? 0 : s.shortage;
    }

    public int minutes() {
        return s == null ? 0 : s.minutes;
    }

    public int leftover() {
        return s == null ? 0 : s.leftover;
    }

    public long lostCost() {
        return s == null ? 0 : s.lostCost;
    }

    public long profit() {
        return s == null ? 0 : s.profit();
    }

    public int events() {
        return s == null ? 0 : s.events.size();
    }

    public int event(int number, int what) {
        fleet();
        index(number, s.events.size());
        range(what, 0, 3);
        return s.events.get(number).part(what);
    }

    public int report() {
        fleet();
        List<String> parts = new ArrayList<>();
        for (int m = 0; m < s.machs.size(); m++) {
            List<String> stocks = new ArrayList<>();
            for (Place p : s.machs.get(m).places) {
                stocks.add(p.stock + "/" + p.capacity);
            }
            parts.add(m + ":" + String.join(",", stocks));
        }
        text = String.join(";", parts);
        return text.length();
    }

    public int reportByte(int i) {
        index(i, text.length());
        return text.charAt(i);
    }

    public int lostIn(int n) {
        fleet();
        days(n, 100);
        return s.after(n).lost() - s.lost();
    }

    public int visitsIn(int n) {
        fleet();
        days(n, 100);
        return s.after(n).visits() - s.visits();
    }

    public int firstLoss(int n) {
        fleet();
        days(n, 100);
        St later = s.copy();
        for (int i = 1; i <= n; i++) {
            later.passDay();
            if (later.lost() > s.lost()) {
                return i;
            }
        }
        return -1;
    }

    public int bestLevel(int n) {
        fleet();
        days(n, 60);
        List<long[]> tried = new ArrayList<>();
        for (int level = 0; level <= 100; level += 10) {
            St later = s.copy();
            later.level = level;
            later = later.after(n);
            tried.add(new long[] {later.lostCost - s.lostCost, later.visits() - s.visits(), level});
        }
        tried.sort(Comparator.<long[]>comparingLong(t -> t[0]).thenComparingLong(t -> t[1]));
        return (int) tried.get(0)[2];
    }

    public int bestForce(int n) {
        fleet();
        days(n, 60);
        long without = s.after(n).lostCost;
        long[] with = new long[s.machs.size()];
        for (int m = 0; m < with.length; m++) {
            St later = s.copy();
            later.machs.get(m).forced = true;
            with[m] = later.after(n).lostCost;
        }
        long least = Arrays.stream(with).min().getAsLong();
        for (int m = 0; m < with.length; m++) {
            if (with[m] == least && least < without) {
                return m;
            }
        }
        return -1;
    }

    public long mixGain(int machine, int slot, int product, int rate, int n) {
        place(machine, slot);
        index(product, s.products.size());
        range(rate, 0, 2000);
        days(n, 60);
        St changed = s.copy();
        changed.machs.get(machine).places.get(slot).pending = product;
        changed.machs.get(machine).places.get(slot).pendingRate = rate;
        return changed.after(n).profit() - s.after(n).profit();
    }

    private void change() {
        before.push(s.copy());
        if (before.size() > 6) {
            before.removeLast();
        }
    }

    public int advance(int n) {
        fleet();
        days(n, 100);
        change();
        int lost = s.lost();
        s = s.after(n);
        return s.lost() - lost;
    }

    public boolean force(int machine) {
        Mach m = mach(machine);
        change();
        boolean fresh = !m.forced;
        m.forced = true;
        return fresh;
    }

    public int changeMix(int machine, int slot, int product, int rate) {
        Place p = place(machine, slot);
        index(product, s.products.size());
        range(rate, 0, 2000);
        change();
        int old = p.pending;
        p.pending = product;
        p.pendingRate = rate;
        return old;
    }

    public int setLevel(int level) {
        fleet();
        range(level, 0, 100);
        change();
        int old = s.level;
        s.level = level;
        return old;
    }

    public int setShift(int shift) {
        fleet();
        range(shift, 1, 999);
        change();
        int old = s.shift;
        s.shift = shift;
        return old;
    }

    public boolean setGap(int machine, int from, int until) {
        Mach m = mach(machine);
        range(from, 0, 9999);
        range(until, 0, 9999);
        change();
        boolean same = m.from == from && m.until == until;
        m.from = from;
        m.until = until;
        return !same;
    }

    public int deposit(int amount) {
        fleet();
        range(amount, 0, 1000000000);
        change();
        int missing = s.account - amount;
        s.log(2, amount, s.account);
        s.account = 0;
        s.deposited += amount;
        s.shortage += missing;
        return missing;
    }

    public int undo() {
        if (before.isEmpty()) {
            throw new IllegalStateException();
        }
        s = before.pop();
        return before.size();
    }

    public int undoable() {
        return before.size();
    }

    public int save(int slot) {
        fleet();
        index(slot, 2);
        saved[slot] = s.copy();
        return s.day;
    }

    public int restore(int slot) {
        index(slot, 2);
        if (saved[slot] == null) {
            throw new IllegalStateException();
        }
        s = saved[slot].copy();
        before.clear();
        return s.day;
    }
}
