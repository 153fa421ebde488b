/** The largest program and menu: every limit of the document is reached at once, and none is passed. */
public final class FullTest {
    private static final String FOODS = Check.series(16, "food f@ 900 price 999 is u@;", "");
    private static final String DISHES = Check.series(16, "dish d@ for 1:100 f@;", "");
    private static final String MEALS = "meal ma:ua or not ua,not ua or ua;meal mb:ua or not ua,not ua or ua;"
        + "meal mc:ua or not ua,not ua or ua;meal md:not(ua and ub),up;";
    private static final String RULES = "rule apart 9 da;rule apart 1 da;rule most 9 da in 14;rule most 0 da in 1;"
        + "rule least 9 da in 14;rule least 9 da in 1;rule energy 0 to 7199;rule energy 7201 to 9999;";
    private static final String FULL = FOODS + DISHES + MEALS + RULES;

    public static void main(String[] args) {
        facts();
        lastPlaces();
        sameDishEverywhere();
        spansOfFourteenDays();
        manyDishesInASpan();
        longestTape();
        fullSets();
        manyCalls();
        Check.end("FullTest");
    }

    private static void facts() {
        MenuScript script = Check.compiled(FULL);
        script.plan(14);
        script.feed(0, 0, 0, 0, 0);
        int[] counts = {16, 16, 4, 8, 8, 16, 14, 20};
        for (int what = 0; what < 8; what++) {
            Check.sameLong("count(" + what + ")", script.count(what), counts[what]);
        }
        for (int i = 0; i < 16; i++) {
            int[] food = {900, 999, 1 << i};
            int[] dish = {1, 900, 999, 1 << i, 1};
            for (int what = 0; what < 3; what++) {
                Check.sameLong("food(" + i + ", " + what + ")", script.food(i, what), food[what]);
            }
            for (int what = 0; what < 5; what++) {
                Check.sameLong("dish(" + i + ", " + what + ")", script.dish(i, what), dish[what]);
            }
            for (int j = 0; j < 16; j++) {
                Check.sameLong("grams(" + i + ", " + j + ")", script.grams(i, j), i == j ? 100 : 0);
            }
        }
        MenuScript next = Check.compiled(FULL);
        for (int choice = 0; choice < 8; choice++) {
            Check.sameLong("choice(" + choice + ", true)", next.choice(choice, true), choice / 2);
            Check.sameLong("choice(" + choice + ", false)", next.choice(choice, false), choice < 7 ? 65535 : 32768);
        }
        int[][] rules = {{0, 9, 0, 1}, {0, 1, 0, 1}, {1, 9, 14, 1}, {1, 0, 1, 1}, {2, 9, 14, 1}, {2, 9, 1, 1},
            {3, 0, 7199, 0}, {3, 7201, 9999, 0}};
        for (int rule = 0; rule < 8; rule++) {
            for (int what = 0; what < 4; what++) {
                Check.sameLong("rule(" + rule + ", " + what + ")", next.rule(rule, what), rules[rule][what]);
            }
        }
    }

    private static void lastPlaces() {
        MenuScript script = Check.compiled(FULL);
        script.plan(14);
        Check.sameLong("at(13, 7)", script.at(13, 7), 15);
        Check.sameLong("set(13, 7, -1)", script.set(13, 7, -1), 15);
        Check.sameLong("at(13, 7) behind set", script.at(13, 7), -1);
        Check.sameLong("set(13, 6, 15)", script.set(13, 6, 15) >= 0 ? 1 : 0, 1);
        Check.sameLong("at(13, 6)", script.at(13, 6), 15);
        script.set(13, 6, 14);
        script.set(0, 6, 13);
        script.exchange(0, 13);
        Check.sameLong("at(0, 7) behind exchange", script.at(0, 7), -1);
        Check.sameLong("at(0, 6) behind exchange", script.at(0, 6), 14);
        Check.sameLong("at(13, 7) behind exchange", script.at(13, 7), 15);
        Check.sameLong("at(13, 6) behind exchange", script.at(13, 6), 13);
        Check.isThrown("at(14, 7)", Check.OUT_OF_BOUNDS, () -> script.at(14, 7));
        Check.isThrown("at(13, 8)", Check.OUT_OF_BOUNDS, () -> script.at(13, 8));
        Check.isThrown("set(14, 0, 0)", Check.OUT_OF_BOUNDS, () -> script.set(14, 0, 0));
        Check.isThrown("set(0, 8, 0)", Check.OUT_OF_BOUNDS, () -> script.set(0, 8, 0));
        Check.isThrown("set(0, 0, 16)", Check.OUT_OF_BOUNDS, () -> script.set(0, 0, 16));
        Check.isThrown("set(0, 7, 14)", Check.BAD_STATE, () -> script.set(0, 7, 14));
        Check.isThrown("exchange(0, 14)", Check.OUT_OF_BOUNDS, () -> script.exchange(0, 14));
        Check.isThrown("day(14, true)", Check.OUT_OF_BOUNDS, () -> script.day(14, true));
        Check.isThrown("times(16)", Check.OUT_OF_BOUNDS, () -> script.times(16));
        Check.isThrown("buy(16, 1)", Check.OUT_OF_BOUNDS, () -> script.buy(16, 1));
        Check.isThrown("faultsOf(8)", Check.OUT_OF_BOUNDS, () -> script.faultsOf(8));
        Check.isThrown("food(16, 0)", Check.OUT_OF_BOUNDS, () -> script.food(16, 0));
        Check.isThrown("dish(16, 0)", Check.OUT_OF_BOUNDS, () -> script.dish(16, 0));
        Check.isThrown("choice(8, true)", Check.OUT_OF_BOUNDS, () -> script.choice(8, true));
        Check.isThrown("rule(8, 0)", Check.OUT_OF_BOUNDS, () -> script.rule(8, 0));
    }

    /** 112 places with the one dish: as many pairs as there can be. */
    private static void sameDishEverywhere() {
        MenuScript script = Check.compiled(FULL.replace("not(ua and ub),up", "ua,ua"));
        script.plan(14);
        for (int place = 0; place < 112; place++) {
            script.set(place / 8, place % 8, 0);
        }
        // Within a day 8 * 7 / 2 pairs, and 8 * 8 of two days, of which 76 lie less than nine days apart.
        int[] due = {14 * 28 + 76 * 64, 14 * 28, 1, 14, 0, 14, 14, 14};
        int all = 0;
        for (int rule = 0; rule < 8; rule++) {
            Check.sameLong("faultsOf(" + rule + ") of one dish", script.faultsOf(rule), due[rule]);
            all += due[rule];
        }
        Check.sameLong("faults() of one dish", script.faults(), all);
        Check.sameLong("times(0)", script.times(0), 112);
        Check.sameLong("times(1)", script.times(1), 0);
        Check.sameLong("day(13, false)", script.day(13, false), 7200);
        Check.sameLong("day(13, true)", script.day(13, true), 7992);
        Check.same("meanPrice()", script.meanPrice(), 999);
        Check.sameLong("buy(0, 1000)", script.buy(0, 1000), 11200000);
        Check.sameLong("buy(1, 1000)", script.buy(1, 1000), 0);
        for (int place = 0; place < 112; place++) {
            script.set(place / 8, place % 8, -1);
        }
        Check.sameLong("faults() without dishes", script.faults(), 112 + 1 + 14 + 14);
        Check.same("meanPrice() without dishes", script.meanPrice(), 0);
        Check.sameLong("times(0) without dishes", script.times(0), 0);
        Check.sameLong("day(13, false) without dishes", script.day(13, false), 0);
    }

    private static void spansOfFourteenDays() {
        MenuScript script = Check.compiled("food a 1;dish d for 1:1 a;meal m:d;rule most 0 d in 14;rule least 9 d in 14;"
            + "rule most 9 d in 14;rule least 9 d in 13;");
        int[] days = {13, 14};
        int[][] due = {{0, 0, 0, 1}, {0, 1, 0, 2}};
        int[][] byOne = {{1, 0, 0, 1}, {1, 1, 0, 2}};
        int[][] byNine = {{1, 0, 0, 0}, {1, 0, 0, 1}};
        int[][] byTen = {{1, 0, 1, 0}, {1, 0, 1, 0}};
        for (int i = 0; i < 2; i++) {
            script.plan(days[i]);
            int last = days[i] - 1;
            faultsAre(script, "no dish", due[i]);
            script.set(last, 0, 0);
            faultsAre(script, "one dish", byOne[i]);
            for (int day = last - 8; day < last; day++) {
                script.set(day, 0, 0);
            }
            faultsAre(script, "nine dishes", byNine[i]);
            script.set(last - 9, 0, 0);
            faultsAre(script, "ten dishes", byTen[i]);
        }
    }

    private static void manyDishesInASpan() {
        MenuScript script = Check.compiled("food a 1;dish d for 1:1 a;meal m:" + Check.repeat(8, "d", ",")
            + ";rule least 9 d in 14;rule most 9 d in 14;rule least 9 d in 2;rule most 9 d in 2;");
        script.plan(14);
        for (int place = 0; place < 112; place++) {
            script.set(place / 8, place % 8, -1);
        }
        for (int place = 0; place < 112; place++) {
            script.set(place / 8, place % 8, 0);
            int meant = place + 1;
            Check.sameLong("faultsOf(0) of " + meant, script.faultsOf(0), meant < 9 ? 1 : 0);
            Check.sameLong("faultsOf(1) of " + meant, script.faultsOf(1), meant > 9 ? 1 : 0);
        }
        faultsAre(script, "112 dishes", 0, 1, 0, 13);
    }

    private static void faultsAre(MenuScript script, String what, int... due) {
        for (int rule = 0; rule < due.length; rule++) {
            Check.sameLong("faultsOf(" + rule + ") of " + what + " in " + script.count(6) + " days",
                script.faultsOf(rule), due[rule]);
        }
    }

    /** 1500 bytes, the last of which is a token, a blank, or what is wrong. */
    private static void longestTape() {
        String filled = FULL.substring(0, FULL.length() - 1);
        String gap = Check.repeat(1500 - FULL.length(), " ", "");
        Check.sameLong("count(4) of 1500 bytes", Check.compiled(filled + gap + ";").count(4), 8);
        Check.sameLong("count(4) of 1500 bytes", Check.compiled(gap + FULL).count(4), 8);
        Check.sameLong("count(4) of 1500 bytes", Check.compiled(FULL + gap).count(4), 8);
        Check.compileError(1, filled + gap + "^.");
        Check.compileError(1, filled + gap + " ^");
        Check.compileError(1, FULL + gap.substring(1) + "^;");
        String foods = "food a 1 is t;meal m:t;";
        Check.compileError(6, foods + Check.repeat(1500 - foods.length(), "\n", "") + "^");
        MenuScript script = Check.compiled(FULL);
        Check.suits(script, 4, Check.repeat(1498, " ", "") + "uc");
        Check.suits(script, 4, "uc" + Check.repeat(1498, "\n", ""));
        Check.testError(script, 1, Check.repeat(1500, "\n", "") + "^");
        Check.testError(script, 1, Check.repeat(1499, " ", "") + "(^");
        Check.testError(script, 2, Check.repeat(1490, " ", "") + "^abcdefghij");
        Check.testError(script, 1, Check.repeat(1489, " ", "") + "^abcdefghijk");
    }

    private static void fullSets() {
        MenuScript script = Check.compiled(FULL);
        Check.suits(script, 65535, "ua or not ua");
        Check.suits(script, 0, "ua and not ua");
        for (int i = 0; i < 16; i++) {
            char letter = (char) ('a' + i);
            Check.suits(script, 1 << i, "d" + letter);
            Check.suits(script, 65535 - (1 << i), "not u" + letter);
        }
        Check.suits(script, 32767, Check.series(15, "u@", " or "));
        Check.testError(script, 1, Check.series(15, "u@", " or ") + " or ^up");
        Check.suits(script, 65535, "not(" + Check.series(13, "u@", " and ") + ")");
    }

    /** An object is used for 512 calls; what it tells is still right at the last of them. */
    private static void manyCalls() {
        MenuScript script = new MenuScript();
        int calls = 0;
        while (calls < 512 - 7) {
            script.feed(Check.four("food", 0), Check.four(" a 1", 0), Check.four(";dis", 0), Check.four("h d ", 0),
                Check.four("for ", 0));
            script.feed(Check.four("1:1 ", 0), Check.four("a is", 0), Check.four(" t;m", 0), Check.four("eal ", 0),
                Check.four("m:d;", 0));
            Check.sameLong("compile() behind " + calls + " calls", script.compile(), 0);
            Check.sameLong("plan(14) behind " + calls + " calls", script.plan(14), 0);
            Check.sameLong("count(6) behind " + calls + " calls", script.count(6), 14);
            Check.sameLong("count(7) behind " + calls + " calls", script.count(7), 0);
            Check.sameLong("times(0) behind " + calls + " calls", script.times(0), 14);
            calls += 7;
        }
    }
}
