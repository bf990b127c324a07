import java.lang.reflect.InvocationTargetException;
import java.lang.reflect.Method;
import java.lang.reflect.Modifier;
import java.nio.charset.StandardCharsets;
import java.util.ArrayList;
import java.util.Comparator;
import java.util.HashMap;
import java.util.List;
import java.util.Map;
import java.util.Random;

/**
 * Makes the same calls, drawn with fixed seeds, on the program and on the reference, and compares every answer.
 * An exception must be thrown by the program's own throw statement: one that the machine or the library throws is
 * wrong.
 */
public final class RandomRunsTest {
    private static final int RUNS = 1500;
    // An object is used for at most so many calls.
    private static final int CALLS = 512;
    private static final int CALLS_TO_LOAD = 70;
    private static final int CALLS_BEHIND_APPENDS = 6;
    private static final int CALLS_TO_COMPARE = 25;
    private static final int LAST_DAY = 2000;
    private static final Map<String, Method> PROGRAM = methods(VendingRoutes.class);
    private static final Map<String, Method> REFERENCE = methods(ReferenceRoutes.class);
    private static final List<String> NAMES = PROGRAM.keySet().stream().sorted(Comparator.naturalOrder()).toList();

    private final Random random;
    private final VendingRoutes program = new VendingRoutes();
    private final ReferenceRoutes reference = new ReferenceRoutes();
    private final List<String> done = new ArrayList<>();
    private final List<String> passive;
    private final List<String> active;
    // Such a run lets many days pass on one fleet, up to the last day and beyond the events that are kept.
    private final boolean isLong;
    private int machine = 0;
    private int calls = 0;
    private int wrong = 0;

    private RandomRunsTest(int seed) {
        random = new Random(seed);
        isLong = chance(10);
        List<String> quiet = new ArrayList<>(NAMES);
        quiet.removeAll(List.of("append", "load"));
        active = List.of("advance", "force", "changeMix", "setLevel", "setShift", "setGap", "deposit", "undo", "save",
                "restore", "advance", "changeMix", "force", "advance", "undo", "deposit");
        quiet.removeAll(active);
        passive = quiet;
    }

    private static Map<String, Method> methods(Class<?> type) {
        Map<String, Method> found = new HashMap<>();
        for (Method m : type.getDeclaredMethods()) {
            if (Modifier.isPublic(m.getModifiers())) {
                found.put(m.getName(), m);
            }
        }
        return found;
    }

    private static String answer(Object of, Method method, Object[] args, boolean isProgram) {
        try {
            return String.valueOf(method.invoke(of, args));
        } catch (InvocationTargetException e) {
            Throwable thrown = e.getCause();
            boolean own = !isProgram || thrown.getStackTrace()[0].getClassName().startsWith("VendingRoutes");
            return (own ? "" : "not of its own: ") + thrown.getClass().getName();
        } catch (IllegalAccessException e) {
            throw new AssertionError(e);
        }
    }

    private String call(String name, Object... args) {
        calls++;
        if (calls > CALLS) {
            throw new AssertionError("more calls than the document allows");
        }
        String is = answer(program, PROGRAM.get(name), args, true);
        String due = answer(reference, REFERENCE.get(name), args, false);
        String told = name + java.util.Arrays.toString(args);
        done.add(told + " = " + due);
        if (!is.equals(due)) {
            wrong++;
            System.out.println(told + " answered " + is + ", due is " + due);
        }
        return due;
    }

    private int below(int bound) {
        return random.nextInt(bound);
    }

    private boolean chance(int percent) {
        return below(100) < percent;
    }

    // ---- texts

    private String fleetText() {
        StringBuilder text = new StringBuilder();
        int spread = chance(50) ? 15 : 100;
        text.append("fleet ").append(below(spread)).append(' ').append(below(spread));
        text.append(" shift ").append(chance(60) ? 100 + below(900) : 1 + below(200));
        text.append(" load ").append(chance(60) ? below(500) : below(40));
        text.append(" visit ").append(chance(70) ? below(15) : below(100));
        text.append(" alpha ").append(below(101));
        text.append(" level ").append(chance(70) ? below(40) : below(101));
        text.append(" horizon ").append(1 + below(30));
        int products = 1 + below(6);
        int machines = 1 + below(8);
        for (int p = 0; p < products; p++) {
            text.append(";product ").append(1 + below(999)).append(' ').append(below(1000)).append(' ')
                    .append(below(1000));
        }
        boolean fast = chance(50);
        for (int m = 0; m < machines; m++) {
            text.append(";machine ").append(below(spread)).append(' ').append(below(spread));
            if (chance(40)) {
                int from = below(60);
                text.append(" gap ").append(from).append(' ').append(from + below(40));
            }
            int slots = chance(10) ? 0 : 1 + below(5);
            for (int s = 0; s < slots && text.length() < 900; s++) {
                int capacity = 1 + below(chance(50) ? 12 : 99);
                text.append(";slot ").append(below(products)).append(' ').append(capacity).append(' ')
                        .append(below(capacity + 1)).append(' ').append(fast ? below(2001) : below(300));
                if (chance(60)) {
                    text.append(" every ").append(1 + below(chance(50) ? 5 : 30));
                }
            }
        }
        int rules = chance(50) ? 0 : 1 + below(4);
        for (int r = 0; r < rules; r++) {
            String rule = ";rule " + test(chance(10) ? 9 : 2);
            if (text.length() + rule.length() <= 1190) {
                text.append(rule);
            }
        }
        return text.toString();
    }

    private String test(int deep) {
        StringBuilder test = new StringBuilder(unit(deep));
        while (chance(40)) {
            test.append(chance(50) ? " and " : " or ").append(unit(deep));
        }
        return test.toString();
    }

    private String unit(int deep) {
        if (deep > 0 && chance(deep > 5 ? 85 : 40)) {
            return chance(50) ? "not " + unit(deep - 1) : "( " + test(deep > 5 ? deep - 1 : deep / 2) + ")";
        }
        String[] values = {"days", "cash", "weekday", "visits", "empty"};
        int[] numbers = {8, 60, 7, 6, 4};
        int v = below(5);
        return values[v] + " <>=".substring(1).charAt(below(3)) + " " + below(numbers[v]);
    }

    private String mutated(String text) {
        if (chance(40)) {
            return withOtherLines(text);
        }
        List<String> tokens = new ArrayList<>(List.of(text.split("(?<=[ ;()<>=])|(?=[;()<>=])")));
        int changes = 1 + below(3);
        for (int i = 0; i < changes; i++) {
            int at = below(tokens.size());
            String[] news = {"", " ", ";", "(", ")", "not ", "and ", "99", "100", "1000", "10000", "100000", "x",
                "gap ", "every ", "slot ", "machine ", "product ", "rule ", "abcdefghij", "abcdefghi", "\u00e9", "0",
                "-", "\n", "and", "<", "=", "days", "2001", "0005", "; ;"};
            String changed = news[below(news.length)];
            switch (below(3)) {
                case 0 -> tokens.set(at, changed);
                case 1 -> tokens.add(at, changed);
                default -> tokens.remove(at);
            }
            if (tokens.isEmpty()) {
                tokens.add("");
            }
        }
        String joined = String.join("", tokens);
        return chance(20) ? joined.substring(0, below(joined.length() + 1)) : joined;
    }

    private String withOtherLines(String text) {
        List<String> lines = new ArrayList<>(List.of(text.split(";")));
        int at = 1 + below(lines.size() - 1);
        switch (below(6)) {
            case 0 -> lines.remove(at);
            case 1 -> lines.addAll(at, java.util.Collections.nCopies(2 + below(7), lines.get(at)));
            case 2 -> lines.add(1, lines.remove(at));
            case 3 -> lines.add("rule " + nested(7 + below(5)));
            case 4 -> lines.set(at, lines.get(at).replaceFirst("[0-9]+(?= |$)", edge()));
            default -> lines.removeIf(line -> line.startsWith("machine"));
        }
        return String.join(chance(10) ? " ; " : ";", lines);
    }

    private String nested(int deep) {
        StringBuilder rule = new StringBuilder();
        int open = 0;
        for (int i = 0; i < deep; i++) {
            boolean isNot = chance(50);
            rule.append(isNot ? "not " : chance(20) ? "(cash>3 or " : "(");
            open += isNot ? 0 : 1;
        }
        rule.append(chance(95) ? "empty > 0" : "slot");
        return rule.append(")".repeat(open)).toString();
    }

    private String edge() {
        int[] edges = {0, 1, 5, 6, 30, 31, 99, 100, 101, 999, 1000, 2000, 2001, 9999, 10000, 99999, 100000};
        return String.valueOf(edges[below(edges.length)]);
    }

    private void loadText(String text, int n) {
        byte[] bytes = text.getBytes(StandardCharsets.ISO_8859_1);
        for (int at = 0; at < bytes.length && calls < CALLS - CALLS_BEHIND_APPENDS; at += 20) {
            Object[] args = new Object[5];
            for (int i = 0; i < 5; i++) {
                int word = 0;
                for (int k = 0; k < 4; k++) {
                    int index = at + 4 * i + k;
                    word = word << 8 | (index < bytes.length ? bytes[index] & 0xff : chance(90) ? ' ' : 'z');
                }
                args[i] = word;
            }
            call("append", args);
        }
        call("load", n);
        call("parseError");
        call("errorPosition");
        call("buffered");
    }

    // ---- calls

    private int argument(String name, int index) {
        int machines = reference.machines();
        int products = reference.products();
        if (chance(4)) {
            int[] odd = {-1, -2, 0, 1, 2, 6, 8, 100, 101, 61, 2000, 2001, Integer.MAX_VALUE, Integer.MIN_VALUE,
                Integer.MAX_VALUE - 5, 300, 9999, 10000, 1000000000, 1000000001};
            return odd[below(odd.length)];
        }
        boolean isDays = List.of("lostIn", "visitsIn", "firstLoss", "advance").contains(name);
        if (isDays || List.of("bestLevel", "bestForce").contains(name) || name.equals("mixGain") && index == 4) {
            return days(name, isDays ? 100 : 60);
        }
        switch (name) {
            case "stockOfProduct", "plannedLoad":
                return below(products + 1);
            case "setLevel":
                return below(101);
            case "setShift":
                return 1 + below(chance(50) ? 200 : 999);
            case "deposit":
                return chance(50) ? reference.account() : below(100000);
            case "save", "restore":
                return below(2);
            case "lowestSlot":
                return below(41);
            case "worst", "routeAt":
                return below(machines + 1);
            case "reportByte":
                return below(60);
            case "event":
                return index == 0 ? below(reference.events() + 1) : below(4);
            case "reports":
                return index == 2 ? 1 + below(100) : index == 0 ? below(machines + 1) : aSlot();
            case "isRuleMet":
                return index == 0 ? below(reference.rules() + 1) : below(machines + 1);
            case "minutesBetween":
                return below(machines + 1) - 1;
            case "setGap":
                return index == 0 ? below(machines + 1) : chance(20) ? below(2)
                        : Math.max(0, reference.day() - 10 + below(40));
            case "changeMix", "mixGain":
                return index == 0 ? below(machines + 1) : index == 1 ? aSlot()
                        : index == 2 ? below(products + 1) : chance(50) ? below(400) : below(2001);
            default:
                return index == 0 ? below(machines + 1) : aSlot();
        }
    }

    private int days(String name, int most) {
        int left = LAST_DAY - reference.day();
        if (left <= most && chance(30)) {
            return left + below(2);
        }
        if (isLong && name.equals("advance")) {
            return 1 + below(most);
        }
        return 1 + below(chance(80) ? 8 : most);
    }

    private int aSlot() {
        boolean hasSlots = machine >= 0 && machine < reference.machines() && reference.slots(machine) > 0;
        return hasSlots && chance(90) ? below(reference.slots(machine)) : below(6);
    }

    private void callByChance(String name) {
        Method method = PROGRAM.get(name);
        Object[] args = new Object[method.getParameterCount()];
        for (int i = 0; i < args.length; i++) {
            int argument = argument(name, i);
            machine = i == 0 ? argument : machine;
            args[i] = argument;
        }
        call(name, args);
    }

    private void compareEverything() {
        for (String name : List.of("day", "account", "deposited", "shortage", "minutes", "leftover", "lostCost",
                "profit", "events", "undoable", "report", "routeLength", "routeMinutes")) {
            call(name);
        }
        int m = below(Math.max(1, reference.machines()));
        for (String name : List.of("risk", "isDue", "cashIn", "visitsOf", "lastVisit", "daysLeft")) {
            call(name, m);
        }
        machine = m;
        int s = aSlot();
        for (String name : List.of("stockOf", "estimateOf", "rateOf", "lostOf", "soldOf", "filledOf")) {
            call(name, m, s);
        }
    }

    private int run() {
        if (chance(20)) {
            for (int i = 0; i < 20; i++) {
                callByChance(NAMES.get(below(NAMES.size())));
            }
            call("load", below(60));
        }
        int busy = isLong ? 60 : 10 + below(50);
        String text = fleetText();
        loadText(text, text.length());
        while (calls < CALLS && wrong == 0) {
            if (chance(busy)) {
                callByChance(isLong && chance(40) ? "advance" : active.get(below(active.size())));
            } else if (!isLong && calls < CALLS - CALLS_BEHIND_APPENDS && chance(2)) {
                String next = chance(20) ? fleetText() : mutated(fleetText());
                loadText(next, chance(95) ? Math.min(next.length(), 1200) : below(1300));
            } else if (calls <= CALLS - CALLS_TO_COMPARE && chance(10)) {
                compareEverything();
            } else {
                callByChance(passive.get(below(passive.size())));
            }
        }
        return wrong;
    }

    /** On objects of their own, since an object is used for at most 512 calls. */
    private int compareTexts() {
        RandomRunsTest test = new RandomRunsTest(random.nextInt());
        for (int i = 0; i < 8 && test.calls < CALLS - CALLS_TO_LOAD && test.wrong == 0; i++) {
            String text = test.mutated(test.fleetText());
            test.loadText(text, Math.min(text.length(), 1200));
            test.call("machines");
            test.call("rules");
        }
        done.addAll(test.done);
        return test.wrong;
    }

    public static void main(String[] args) {
        int runs = args.length > 0 ? Integer.parseInt(args[0]) : RUNS;
        int first = args.length > 1 ? Integer.parseInt(args[1]) : 1;
        Map<String, Integer> answers = new HashMap<>();
        for (int seed = first; seed < first + runs; seed++) {
            RandomRunsTest test = new RandomRunsTest(seed);
            if (test.run() > 0 || test.compareTexts() > 0) {
                System.out.println("the run of seed " + seed + " is wrong; its last calls, with what is due:");
                int from = Math.max(0, test.done.size() - 40);
                test.done.subList(from, test.done.size()).forEach(System.out::println);
                System.exit(1);
            }
            if (args.length > 2) {
                for (String told : test.done) {
                    String name = told.substring(0, told.indexOf('['));
                    String due = told.substring(told.lastIndexOf(" = ") + 3);
                    answers.merge(name + " " + due, 1, Integer::sum);
                }
            }
        }
        answers.entrySet().stream().sorted(Map.Entry.comparingByKey())
                .forEach(e -> System.out.println(e.getKey() + " x " + e.getValue()));
        System.out.println(runs + " random runs answered as is due");
    }
}
