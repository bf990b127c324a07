import java.util.ArrayList;
import java.util.List;

/** The sentences of section 6: what a text is, and where one that is wrong is wrong. */
final class TextChecks {
    private static final int NONE = VendingRoutes.NONE;
    private static final String FLEET = "fleet 0 0 shift 9 load 9 visit 0 alpha 0 level 0 horizon 1";
    private static final String PRODUCT = FLEET + ";product 1 0 0";
    private static final String MACHINE = PRODUCT + ";machine 0 0";

    private final Sentences s;

    TextChecks(Sentences sentences) {
        s = sentences;
    }

    void all() {
        buffer();
        tokens();
        s.tellsNothing("section 6", "The grammar, with literals in quotes:");
        grammar();
        belonging();
        numbers();
        most();
        depth();
        firstError();
        positions();
        codes();
    }

    /** What load says to a text: the number of machines, or the code and the position of the error. */
    private static String said(String text) {
        VendingRoutes x = new VendingRoutes();
        Fleets.write(x, text);
        return saidOf(x, text.length());
    }

    private static String saidOf(VendingRoutes x, int n) {
        try {
            return "loads " + x.load(n) + ", code " + x.parseError() + " at " + x.errorPosition();
        } catch (IllegalArgumentException e) {
            return "code " + x.parseError() + " at " + x.errorPosition();
        }
    }

    private void loads(String text, int machines) {
        s.is(said(text) + " of " + text, "loads " + machines + ", code 0 at -1 of " + text);
    }

    private void wrong(String text, int code, int at) {
        s.is(said(text) + " of " + text, "code " + code + " at " + at + " of " + text);
    }

    /** Wrong at the first byte behind what is right. */
    private void wrongBehind(String right, String rest, int code) {
        wrong(right + rest, code, right.length());
    }

    private static String filled(String text, int length) {
        return text + " ".repeat(length - text.length());
    }

    private void buffer() {
        s.of("section 6", "The input buffer holds at most 1200 bytes.");
        VendingRoutes x = new VendingRoutes();
        Fleets.write(x, filled(MACHINE, 1180));
        s.is(x.buffered(), 1180);
        s.is(x.append(0, 0, 0, 0, 0), 1200);
        s.is(x.append(0, 0, 0, 0, 0), NONE);
        s.is(x.buffered(), 1200);
        s.is(saidOf(x, 1180), "loads 1, code 0 at -1");
        VendingRoutes y = new VendingRoutes();
        Fleets.write(y, filled(MACHINE, 1199) + "!");
        s.is(saidOf(y, 1200), "code 1 at 1199");
        // All 1200 bytes are a text.
        loads(filled(MACHINE + ";", 1188) + "machine 99 9", 2);
    }

    private void tokens() {
        s.of("section 6", "Tokens are words (1 to 9 lower-case letters)");
        loads(MACHINE + ";rule(((days<5)))", 1);
        loads(MACHINE + ";rule days>00005;rule cash=99and not visits<1;machine 00099 00000", 2);
        for (String word : new String[] {"a", "machin", "machines", "abcdefghi", "abcdefghij", "machinemachine"}) {
            wrongBehind(MACHINE + ";", word + " 0 0", 1);
        }
        for (String sign : new String[] {"(", ")", "<", ">", "=", ";", "0", "00000", "000000"}) {
            wrongBehind(MACHINE + ";", sign + " 0 0", 1);
        }
        wrongBehind(MACHINE + ";machine ", "000000 0", 1);
        loads(MACHINE + ";machine 00000 0", 2);

        s.of("section 6", "Blanks (byte 32) only separate tokens.");
        loads("   " + MACHINE.replace(" ", "     ").replace(";", "   ;  ") + "      ", 1);
        loads(MACHINE + "gap 0 9;slot 0 9 9 9every 9;rule(days<0)or not(cash>9and not visits=1)", 1);
        loads("fleet0 0shift9load9visit0alpha0level0horizon1;product1 0 0;machine0 0", 1);
        for (int b : new int[] {0, 9, 10, 11, 12, 13, 31, 33, 127, 160, 255}) {
            wrongBehind("fleet 0", (char) b + "0 shift 9", 1);
            wrongBehind("", (char) b + MACHINE, 1);
            wrongBehind(MACHINE, String.valueOf((char) b), 1);
        }
        // A blank parts what would be one token.
        wrongBehind("", "fle et 0 0", 1);
        wrongBehind("fleet 1 2 ", "3 shift 9", 1);

        s.of("section 6", "A run of letters ends at the first byte that is not a lower-case letter");
        wrongBehind("fleet", "X0 0 shift 9", 1);
        wrongBehind("", "fleeT 0 0", 1);
        wrongBehind("", "Fleet 0 0", 1);
        wrongBehind("fleet", "{0 0", 1);
        wrongBehind("fleet", "`0 0", 1);
        wrongBehind("fleet 0", "x0 shift", 1);
        wrongBehind("fleet 0", "/0 shift", 1);
        wrongBehind("fleet 0", ":0 shift", 1);
        wrongBehind("fleet 0 0", "_shift", 1);
        loads("fleet00009 00008shift00009load9visit0alpha0level0horizon1;machine0 0", 1);
        // Ten letters are one run, even if it begins with a word that is due; so are six digits.
        wrongBehind("", "fleetfleet 0 0", 1);
        wrongBehind("fleet ", "0000000 shift", 1);
    }

    private void wrongBehind(String right, String rest, int code, int further) {
        wrong(right + rest, code, right.length() + further);
    }

    // ---- the grammar

    private void grammar() {
        s.of("section 6", "text = fleet {\";\" line}");
        wrong("", 1, 0);
        wrong(";", 1, 0);
        wrong(FLEET, 5, FLEET.length());
        wrongBehind(FLEET, " machine 0 0", 1, 1);
        wrongBehind(FLEET + ";", "", 1);
        wrongBehind(FLEET + ";", ";machine 0 0", 1);
        wrongBehind(FLEET + ";", "fleet 0 0", 1);
        wrongBehind("", "machine 0 0", 1);
        loads(FLEET + ";machine 0 0", 1);
        loads(FLEET + ";machine 0 0;machine 0 0", 2);
        wrongBehind(FLEET + ";machine 0 0;", "", 1);
        wrongBehind(FLEET + ";machine 0 0 ", "machine 0 0", 1);
        loads(FLEET + ";rule days<1;product 1 1 1;machine 0 0;rule days<1;product 1 1 1;slot 1 1 1 1", 1);

        s.of("section 6", "fleet = \"fleet\" X Y \"shift\" SHIFT");
        line("", "fleet 0 0 shift 1 load 0 visit 0 alpha 0 level 0 horizon 1 .", 0);
        s.of("section 6", "line = \"product\" PRICE COST PENALTY");
        line(FLEET + ";", "product 1 0 0 .", 0);
        line(MACHINE + ";", "product 1 0 0 . ; product 1 0 0 .", 1);
        s.of("section 6", "line = \"machine\" X Y [\"gap\" FROM UNTIL]");
        line(MACHINE + ";", "machine 0 0 . gap 0 0 . ; machine 0 0 .", 1);
        wrongBehind(MACHINE + ";machine 0 0 gap 0 0 ", "gap 0 0", 1);
        wrongBehind(MACHINE + " ", "every 1", 1);
        s.of("section 6", "line = \"slot\" PRODUCT CAPACITY STOCK RATE");
        line(MACHINE + ";", "slot 0 1 0 0 . every 1 . ; slot 0 1 0 0 .", 1);
        wrongBehind(MACHINE + ";slot 0 1 0 0 every 1 ", "every 1", 1);
        wrongBehind(MACHINE + ";slot 0 1 0 0 ", "gap 0 0", 1);
        s.of("section 6", "line = \"rule\" test");
        line(MACHINE + ";", "rule days < 0 . ; rule days < 0 .", 1);
        s.of("section 6", "test = unit {(\"and\" | \"or\") unit}");
        line(MACHINE + ";rule ", "days < 0 . and days < 0 . or days < 0 . or days < 0 . and days < 0 .", 1);
        s.of("section 6", "unit = \"not\" unit | \"(\" test \")\"");
        line(MACHINE + ";rule ", "not days < 0 . and not not days > 0 .", 1);
        line(MACHINE + ";rule ", "( days < 0 ) . or ( ( days > 0 ) and days = 0 ) .", 1);
        line(MACHINE + ";rule ", "not ( not days = 0 or ( days = 0 ) ) .", 1);
        wrongBehind(MACHINE + ";rule ", ") days < 0", 1);
        wrongBehind(MACHINE + ";rule (", ")", 1);
        wrongBehind(MACHINE + ";rule days < 0 ", ")", 1);
        wrongBehind(MACHINE + ";rule days < 0 ", "not days < 0", 1);
        wrongBehind(MACHINE + ";rule days < 0 ", "(days < 0)", 1);
        wrongBehind(MACHINE + ";rule days < ", "= 0", 1);
        wrongBehind(MACHINE + ";rule ", "0 < days", 1);
        wrongBehind(MACHINE + ";rule days < ", "cash", 1);
        wrongBehind(MACHINE + ";rule (days < 0", ";machine 0 0", 1);
        s.of("section 6", "value = \"days\" | \"cash\" | \"weekday\" | \"visits\" | \"empty\"");
        for (String value : new String[] {"days", "cash", "weekday", "visits", "empty"}) {
            line(MACHINE + ";rule ", value + " < 0 .", 1);
            loads(MACHINE + ";rule " + value + "<0 and " + value + "=0 or " + value + ">0", 1);
            wrongBehind(MACHINE + ";rule ", value.substring(1) + " < 0", 1);
            wrongBehind(MACHINE + ";rule ", value + "s < 0", 1);
        }
        wrongBehind(MACHINE + ";rule ", "day < 0", 1);
        wrongBehind(MACHINE + ";rule ", "stock < 0", 1);
    }

    /**
     * A line's tokens behind a right beginning, with a dot where it is complete: the text is cut behind each token,
     * and each token is replaced by one that is not due, or has such a one in front of it.
     */
    private void line(String before, String marked, int machines) {
        List<String> tokens = new ArrayList<>();
        List<Boolean> complete = new ArrayList<>(List.of(false));
        for (String token : marked.split(" ")) {
            if (token.equals(".")) {
                complete.set(tokens.size(), true);
            } else {
                tokens.add(token);
                complete.add(false);
            }
        }
        for (int cut = 0; cut <= tokens.size(); cut++) {
            String text = before + String.join(" ", tokens.subList(0, cut));
            int more = (int) tokens.subList(0, cut).stream().filter(token -> token.equals("machine")).count();
            for (String end : new String[] {"", " ", "   "}) {
                if (!complete.get(cut)) {
                    wrong(text + end, 1, text.length() + end.length());
                } else if (machines + more == 0) {
                    wrong(text + end, 5, text.length() + end.length());
                } else {
                    loads(text + end, machines + more);
                }
            }
        }
        for (int at = 0; at < tokens.size(); at++) {
            String right = before + String.join(" ", tokens.subList(0, at)) + " ";
            String rest = " " + String.join(" ", tokens.subList(at + 1, tokens.size()));
            boolean isNumber = Character.isDigit(tokens.get(at).charAt(0));
            String[] others = {"x", "abcdefghi", "abcdefghij", "horizons", "100000", "!", "X", "\u00fc"};
            for (String other : others) {
                wrongBehind(right, other + rest, 1);
                wrongBehind(right, other + " " + tokens.get(at) + rest, 1);
            }
            for (String near : isNumber ? List.<String>of() : nearTo(tokens.get(at))) {
                wrongBehind(right, near + rest, 1);
            }
            wrongBehind(right, "99999" + rest, isNumber ? 2 : 1);
            wrongBehind(right, (isNumber ? "(" : "0") + rest, 1);
        }
    }

    /** A word with a letter less, more, or another one at each place. */
    private static List<String> nearTo(String word) {
        List<String> near = new ArrayList<>();
        if (!Character.isLetter(word.charAt(0))) {
            return near;
        }
        near.add(word.substring(1) + "(");
        near.add(word.substring(0, word.length() - 1) + "(");
        near.add(word + "s");
        near.add(word + word.charAt(word.length() - 1));
        near.add(word.charAt(0) + word);
        for (int i = 0; i < word.length(); i++) {
            char other = (char) (word.charAt(i) == 'z' ? 'a' : word.charAt(i) + 1);
            near.add(word.substring(0, i) + other + word.substring(i + 1));
        }
        return near;
    }

    private void belonging() {
        s.of("section 6", "X and Y of the fleet line are the position of the depot.");
        VendingRoutes x = Fleets.loaded(FLEET.replace("fleet 0 0", "fleet 99 3") + ";machine 98 5;machine 99 3");
        s.is(x.minutesBetween(NONE, 0) + " " + x.minutesBetween(NONE, 1) + " " + x.minutesBetween(0, 1), "3 0 3");

        s.of("section 6", "A slot line belongs to the latest machine line.");
        VendingRoutes y = Fleets.loaded(PRODUCT + ";machine 0 0;machine 1 1;slot 0 9 1 0;rule days < 0;product 1 1 1"
                + ";slot 1 9 2 0;machine 2 2;slot 0 9 3 0");
        s.is(y.slots(0) + " " + y.slots(1) + " " + y.slots(2), "0 2 1");
        s.is(y.stockOf(1, 0) + " " + y.stockOf(1, 1) + " " + y.stockOf(2, 0), "1 2 3");

        s.of("section 6", "A machine without a gap part has a gap with FROM 1 and UNTIL 0");
        VendingRoutes z = Fleets.loaded(PRODUCT + ";machine 0 0 gap 0 0;slot 0 9 9 0;machine 0 0;slot 0 9 9 0");
        s.is(z.setGap(1, 1, 0), false);
        s.is(z.setGap(0, 1, 0), true);
        for (int day : new int[] {1, 2, 3, 1999, 2000}) {
            s.is(z.reports(0, 0, day) + " " + z.reports(1, 0, day), "true true");
        }
        s.is(z.setGap(1, 0, 0), true);
        VendingRoutes later = Fleets.loaded(PRODUCT + ";machine 0 0 gap 5 9;machine 0 0");
        s.is(later.setGap(1, 1, 0) + " " + later.setGap(0, 5, 9), "false false");
    }

    // ---- the bounds

    private void numbers() {
        s.of("section 6", "X and Y are 0 to 99, SHIFT 1 to 999");
        String end = ";product 1 0 0;machine 0 0";
        bounds("fleet # 0 shift 9 load 9 visit 0 alpha 0 level 0 horizon 1" + end, 0, 99);
        bounds("fleet 0 # shift 9 load 9 visit 0 alpha 0 level 0 horizon 1" + end, 0, 99);
        bounds("fleet 0 0 shift # load 9 visit 0 alpha 0 level 0 horizon 1" + end, 1, 999);
        bounds("fleet 0 0 shift 9 load # visit 0 alpha 0 level 0 horizon 1" + end, 0, 9999);
        bounds("fleet 0 0 shift 9 load 9 visit # alpha 0 level 0 horizon 1" + end, 0, 99);
        bounds("fleet 0 0 shift 9 load 9 visit 0 alpha # level 0 horizon 1" + end, 0, 100);
        bounds("fleet 0 0 shift 9 load 9 visit 0 alpha 0 level # horizon 1" + end, 0, 100);
        bounds("fleet 0 0 shift 9 load 9 visit 0 alpha 0 level 0 horizon #" + end, 1, 30);
        bounds(MACHINE + ";machine # 0", 0, 99);
        bounds(MACHINE + ";machine 0 #", 0, 99);
        bounds(MACHINE + ";product # 0 0", 1, 999);
        bounds(MACHINE + ";product 1 # 0", 0, 999);
        bounds(MACHINE + ";product 1 0 #", 0, 999);
        bounds(MACHINE + " gap # 9999", 0, 9999);
        bounds(MACHINE + " gap 0 #", 0, 9999);
        bounds(MACHINE + " gap 7 #", 7, 9999);
        bounds(MACHINE + " gap 9999 #", 9999, 9999);
        bounds(MACHINE + ";slot # 1 0 0", 0, 0);
        bounds(MACHINE + ";product 1 0 0;slot # 1 0 0;product 1 0 0", 0, 1);
        bounds(MACHINE + ";product 1 0 0".repeat(5) + ";slot # 1 0 0", 0, 5);
        bounds(MACHINE + ";slot 0 # 0 0", 1, 99);
        bounds(MACHINE + ";slot 0 1 # 0", 0, 1);
        bounds(MACHINE + ";slot 0 50 # 0", 0, 50);
        bounds(MACHINE + ";slot 0 99 # 0", 0, 99);
        bounds(MACHINE + ";slot 0 99 99 #", 0, 2000);
        bounds(MACHINE + ";slot 0 1 1 0 every #", 1, 30);
        for (String value : new String[] {"days", "cash", "weekday", "visits", "empty"}) {
            bounds(MACHINE + ";rule " + value + " < #", 0, 9999);
            bounds(MACHINE + ";rule not (" + value + " > # or days = 0)", 0, 9999);
            bounds(MACHINE + ";rule days = 0 and " + value + " = #;rule days = 0", 0, 9999);
        }
        takenUp();
    }

    private void bounds(String text, int least, int most) {
        int at = text.indexOf('#');
        int machines = text.split(";machine").length - 1;
        for (int right : new int[] {least, most}) {
            loads(text.replace("#", String.valueOf(right)), machines);
            loads(text.replace("#", String.format("%05d", right)), machines);
            wrong(text.replace("#", String.format("%06d", right)), 1, at);
        }
        if (least > 0) {
            wrong(text.replace("#", String.valueOf(least - 1)), 2, at);
            wrong(text.replace("#", "0"), 2, at);
        }
        wrong(text.replace("#", String.valueOf(most + 1)), 2, at);
        wrong(text.replace("#", "99999"), 2, at);
        wrong(text.replace("#", "100000"), 1, at);
        wrong(text.replace("#", "-1"), 1, at);
    }

    /** The numbers at their bounds are those that the fleet then has. */
    private void takenUp() {
        for (int number : new int[] {1, 999}) {
            s.is(Fleets.loaded(MACHINE.replace("shift 9", "shift " + number)).setShift(5), number);
        }
        for (int number : new int[] {0, 100}) {
            s.is(Fleets.loaded(MACHINE.replace("level 0", "level " + number)).setLevel(5), number);
        }
        s.is(Fleets.loaded(MACHINE + " gap 0 9999").setGap(0, 0, 9999), false);
        s.is(Fleets.loaded(MACHINE + " gap 9999 9999").setGap(0, 9999, 9999), false);
        VendingRoutes x = Fleets.loaded(MACHINE.replace("machine 0 0", "machine 99 98") + ";slot 0 99 99 2000 every 30"
                + ";slot 0 1 0 0");
        s.is(x.minutesBetween(NONE, 0), 197);
        s.is(x.stockOf(0, 0) + " " + x.rateOf(0, 0) + " " + x.stockOf(0, 1), "99 20.0 0");
        // EVERY is 1 if it is left out, also behind a slot with another one.
        s.is(x.reports(0, 0, 29) + " " + x.reports(0, 0, 30) + " " + x.reports(0, 1, 29), "false true true");
        for (int number : new int[] {0, 9999}) {
            VendingRoutes y = Fleets.loaded(MACHINE + ";rule days > " + number + ";rule cash = " + number
                    + ";rule not visits < " + number);
            s.is(y.isRuleMet(0, 0) + " " + y.isRuleMet(1, 0) + " " + y.isRuleMet(2, 0),
                    number == 0 ? "true true true" : "false false false");
        }
        // HORIZON, ALPHA, LOAD, VISIT and a product's three at their most.
        VendingRoutes most = Fleets.loaded("fleet 0 0 shift 999 load 9999 visit 99 alpha 100 level 100 horizon 30"
                + ";product 999 999 999;machine 0 0;slot 0 99 0 2000");
        s.is(most.risk(0), 600f * 999f);
        s.is(most.routeMinutes() + " " + most.plannedLoad(0), "99 99");
        most.advance(6);
        s.is(most.profit() + " " + most.lostCost(), 999 * 120 - 999 * (99 + 5 * 20) + " 0");
        VendingRoutes least = Fleets.loaded("fleet 0 0 shift 1 load 0 visit 0 alpha 0 level 0 horizon 1"
                + ";product 1 0 0;machine 0 0;slot 0 1 0 2000");
        s.is(least.risk(0) + " " + least.routeMinutes() + " " + least.plannedLoad(0), "0.0 0 0");
        s.is(least.advance(1) + " " + least.lostCost() + " " + least.visitsOf(0), "20 0 1");
    }

    private void most() {
        s.of("section 6", "There are at most 6 products, 8 machines");
        VendingRoutes products = Fleets.loaded(FLEET + ";product 1 0 0".repeat(6) + ";machine 0 0");
        s.is(products.products(), 6);
        VendingRoutes machines = Fleets.loaded(FLEET + ";machine 0 0".repeat(8));
        s.is(machines.machines(), 8);
        VendingRoutes slots = Fleets.loaded(MACHINE + ";slot 0 1 0 0".repeat(5) + ";machine 0 0"
                + ";slot 0 1 0 0".repeat(5));
        s.is(slots.slots(0) + " " + slots.slots(1), "5 5");
        VendingRoutes rules = Fleets.loaded(MACHINE + ";rule days < 0".repeat(4));
        s.is(rules.rules(), 4);
        s.is(said(FLEET + ";product 1 0 0".repeat(6) + ";machine 0 0".repeat(8) + ";slot 0 1 0 0".repeat(5)
                + ";rule days < 0".repeat(4)), "loads 8, code 0 at -1");
        wrongBehind(FLEET + ";product 1 0 0".repeat(6) + ";", "product 1 0 0;machine 0 0", 4);
        wrongBehind(FLEET + ";machine 0 0".repeat(8) + ";", "machine 0 0", 4);
        wrongBehind(MACHINE + ";slot 0 1 0 0".repeat(5) + ";", "slot 0 1 0 0", 4);
        wrongBehind(MACHINE + ";machine 0 0" + ";slot 0 1 0 0".repeat(5) + ";", "slot 0 1 0 0", 4);
        wrongBehind(MACHINE + ";rule days < 0".repeat(4) + ";", "rule days < 0", 4);
        // None of them is due, but for a machine.
        VendingRoutes few = Fleets.loaded(FLEET + ";machine 0 0");
        s.is(few.products() + " " + few.rules() + " " + few.slots(0), "0 0 0");
    }

    private void depth() {
        s.of("section 6", "A unit may be inside at most 9 other units.");
        String[] nine = {"( ( ( ( ( ( ( ( ( # ) ) ) ) ) ) ) ) )", "not not not not not not not not not #",
            "not ( not ( not ( not ( not # ) ) ) )", "( not ( not ( not ( not ( # ) ) ) ) )",
            "days = 1 and ( ( ( ( ( ( ( ( ( days = 1 and # ) ) ) ) ) ) ) ) ) and days = 1",
            "( ( ( ( ( ( ( ( not # ) ) ) ) ) ) ) )"};
        boolean[] isNot = {false, true, true, false, false, true};
        for (int i = 0; i < nine.length; i++) {
            String rule = MACHINE + ";rule " + nine[i];
            VendingRoutes held = Fleets.loaded(rule.replace("#", "days = 1"));
            s.is(held.isRuleMet(0, 0), !isNot[i]);
            VendingRoutes failed = Fleets.loaded(rule.replace("#", "days = 0"));
            s.is(failed.isRuleMet(0, 0), isNot[i]);
            wrong(rule.replace("#", "( days = 1 )"), 6, rule.indexOf('#') + 2);
            wrong(rule.replace("#", "not days = 1"), 6, rule.indexOf('#') + 4);
            wrong(rule.replace("#", "not ( days = 1 )"), 6, rule.indexOf('#') + 4);
            // A unit beside it is as deep as it is.
            loads(rule.replace("#", "days = 1 or cash = 0"), 1);
        }
    }

    // ---- the errors

    private void firstError() {
        s.of("section 6", "Parsing stops at the first token, from the left");
        wrongBehind("fleet ", "100 100 ! machine", 2);
        wrongBehind("fleet 0 ", "! 100", 1);
        wrongBehind(FLEET + ";", "slot 9 0 0 0;machine 100", 3);
        wrongBehind(MACHINE + ";slot ", "1 0 9 9999 every 0", 2);
        wrongBehind(MACHINE + ";slot 0 ", "0 1 9999", 2);
        wrongBehind(MACHINE + ";slot 0 9 ", "10 2001", 2);
        wrongBehind(MACHINE + ";slot 0 9 9 ", "2001 x", 2);
        wrongBehind(MACHINE + ";slot 0 1 0 0".repeat(5) + ";", "slot 9 0 0 0", 4);
        wrongBehind(MACHINE + ";rule days < 0".repeat(4) + ";", "rule " + "(".repeat(12), 4);
        wrongBehind(FLEET + ";machine 0 0".repeat(8) + ";", "machine 100 100", 4);
        wrongBehind(FLEET + ";product 1 1 1".repeat(6) + ";", "product 0 0 0", 4);
        // Of 1 and 2: a number of six digits; of 1 and 5: the end; of 1 and 6: a token that begins no unit.
        wrongBehind("fleet ", "100000 0", 1);
        wrongBehind("fleet 0", "", 1);
        wrongBehind(FLEET + ";product 1", "", 1);
        wrongBehind(FLEET + ";rule days < 0 and", "", 1);
        for (String token : new String[] {"", "0", "slot", "and", ")", "<", ";", "!", "abcdefghij", "day"}) {
            wrongBehind(MACHINE + ";rule " + "(".repeat(10), token, 1);
            wrongBehind(MACHINE + ";rule " + "not ".repeat(10), token, 1);
        }
        String[] beginnings = {"days", "cash", "weekday", "visits", "empty", "not", "(", "not x", "days x"};
        for (String token : beginnings) {
            wrongBehind(MACHINE + ";rule " + "(".repeat(10), token, 6);
            wrongBehind(MACHINE + ";rule " + "not ".repeat(10), token, 6);
        }
    }

    private void positions() {
        s.of("section 6", "The position of an error is the index of the token's first byte");
        wrong("x", 1, 0);
        wrong("   x", 1, 3);
        wrong("fleets 0", 1, 0);
        wrong("fleet 0   100", 2, 10);
        wrong("fleet 0   abcdefghijklm", 1, 10);
        wrong("fleet 0   1234567890", 1, 10);
        wrong("fleet 0 0shift9load10000", 2, 19);
        wrong("", 1, 0);
        wrong(" ", 1, 1);
        wrong("fleet", 1, 5);
        wrong("fleet     ", 1, 10);
        wrong(filled("fleet", 1200), 1, 1200);
        wrong(filled(PRODUCT, 1200), 5, 1200);
        wrong(PRODUCT + "  ", 5, PRODUCT.length() + 2);
        wrong(filled("", 1199) + "x", 1, 1199);
        // Behind the n bytes the text is at its end, whatever the buffer holds.
        VendingRoutes x = new VendingRoutes();
        Fleets.write(x, MACHINE);
        s.is(saidOf(x, 8), "code 1 at 8");
    }

    private void codes() {
        s.of("section 6", "1: a byte that starts no token");
        for (int b = 0; b < 256; b++) {
            String sign = String.valueOf((char) b);
            boolean isDigit = b >= '0' && b <= '9';
            if (b == ' ') {
                loads(sign + MACHINE + sign, 1);
                continue;
            }
            wrongBehind("", sign + MACHINE, 1);
            // A digit makes one number of the two, so that the next token is wrong.
            wrongBehind("fleet 0", sign + "0 shift 9", 1, isDigit ? 3 : 0);
            wrongBehind(MACHINE + " ", sign, 1, b == ';' ? 1 : 0);
            wrongBehind(MACHINE + ";", sign, 1);
        }
        wrongBehind(FLEET + ";", "abcdefghij 0 0", 1);
        wrongBehind(MACHINE + ";", "z".repeat(800), 1);
        wrongBehind(MACHINE + ";machine ", "100000 0", 1);
        // These are 0 and 5 where they are counted with 32 bits.
        wrongBehind(MACHINE + ";machine ", "4294967296 0", 1);
        wrongBehind(MACHINE + ";machine 0 ", "4294967301", 1);
        wrongBehind(MACHINE + ";machine 0 ", "18446744073709551616", 1);
        wrongBehind(MACHINE + ";machine 0 ", "0".repeat(800), 1);
        wrongBehind(MACHINE + ";machine 0", "", 1);

        s.of("section 6", "2: a number out of its bounds");
        wrongBehind("fleet 0 0 shift ", "0 load 9", 2);
        wrongBehind("fleet 0 0 shift ", "1000 load 9", 2);
        wrongBehind(FLEET + ";machine 0 0;slot ", "0 1 0 0", 2);
        wrongBehind(MACHINE + ";slot ", "1 1 0 0;product 1 0 0", 2);
        wrongBehind(MACHINE + ";product 1 0 0;slot ", "2 1 0 0", 2);
        wrongBehind(MACHINE + " gap 5 ", "4", 2);
        wrongBehind(MACHINE + ";slot 0 5 ", "6 0", 2);

        s.of("section 6", "3: a slot line before the first machine line");
        wrongBehind(PRODUCT + ";", "slot 0 1 0 0;machine 0 0", 3);
        wrongBehind(PRODUCT + ";", "slot", 3);
        wrongBehind(FLEET + ";  ", "slot 0 1 0 0", 3);
        loads(MACHINE + ";slot 0 1 0 0", 1);

        s.of("section 6", "4: a seventh product, a ninth machine, a sixth slot of a machine, or a fifth rule");
        wrongBehind(FLEET + ";product 1 0 0".repeat(6) + "; ", "product", 4);
        wrongBehind(FLEET + ";machine 0 0".repeat(8) + "; ", "machine", 4);
        wrongBehind(MACHINE + ";slot 0 1 0 0".repeat(5) + "; ", "slot", 4);
        wrongBehind(MACHINE + ";rule days < 0".repeat(4) + "; ", "rule", 4);
        loads(MACHINE + ";slot 0 1 0 0".repeat(5) + ";machine 0 0;slot 0 1 0 0", 2);

        s.of("section 6", "5: at the end of the text: no machine.");
        wrongBehind(FLEET, "", 5);
        wrongBehind(PRODUCT, "", 5);
        wrongBehind(PRODUCT + ";rule days < 0", "", 5);
        wrongBehind(PRODUCT + ";rule days < 0", "   ", 5, 3);
        loads(FLEET + ";machine 0 0", 1);

        s.of("section 6", "6: a unit that is inside more than 9 other units");
        wrongBehind(MACHINE + ";rule " + "(".repeat(10), "days < 0", 6);
        wrongBehind(MACHINE + ";rule " + "not ".repeat(10), "days < 0", 6);
        wrongBehind(MACHINE + ";rule " + "not(".repeat(5), "days < 0", 6);
        wrongBehind(MACHINE + ";rule " + "(".repeat(10), "(days < 0", 6);
        wrongBehind(MACHINE + ";rule " + "(".repeat(10), "not days < 0", 6);
        wrongBehind(MACHINE + ";rule " + "(".repeat(9) + "days < 0 or (", "cash < 0", 6);
        wrongBehind(MACHINE + ";rule days < 0;rule " + "(".repeat(10), "days < 0", 6);
        wrongBehind(MACHINE + ";rule " + "(".repeat(400), "", 6, -390);
        wrongBehind(MACHINE + ";rule " + "not ".repeat(260), "", 6, -250 * 4);
        loads(MACHINE + ";rule " + "(".repeat(9) + "days < 0" + ")".repeat(9), 1);
        loads(MACHINE + ";rule " + "not ".repeat(9) + "days < 0", 1);
    }
}
