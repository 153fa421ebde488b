/** Promises 14 to 24: planning, places, faults, changes, days, shopping and prices. */
public final class MenuTest {
    private static final String START = "food a 100 price 50 is t;food b 200 price 9 is u;food c 300 is v;"
        + "dish d for 1:100 a;dish e for 2:100 b;dish f for 3:100 c,100 a is w;";

    public static void main(String[] args) {
        planning();
        planningByApart();
        planningByMost();
        planningWithoutOtherRules();
        planningAgain();
        places();
        faultsOfGaps();
        faultsOfApart();
        faultsOfMost();
        faultsOfLeast();
        faultsOfEnergy();
        improving();
        improvingTies();
        improvingTakesNothingAway();
        exchanging();
        daysAndTimes();
        buying();
        prices();
        Check.end("MenuTest");
    }

    private static MenuScript menu(int days, String rest) {
        MenuScript script = Check.compiled(START + rest);
        script.plan(days);
        return script;
    }

    /** The dishes d, e, f of the menu by their letters, - for none, a blank behind each day. */
    private static String shown(MenuScript script) {
        StringBuilder text = new StringBuilder();
        for (int day = 0; day < script.count(6); day++) {
            for (int choice = 0; choice < script.count(3); choice++) {
                text.append("-defghijklmnopqrs".charAt(script.at(day, choice) + 1));
            }
            text.append(' ');
        }
        return text.toString();
    }

    private static void show(MenuScript script, String due) {
        Check.sameText("the menu", shown(script), due);
    }

    /** Sets the dishes of all places, one behind the other. */
    private static void fill(MenuScript script, String dishes) {
        int choices = script.count(3);
        String letters = dishes.replace(" ", "");
        for (int place = 0; place < letters.length(); place++) {
            script.set(place / choices, place % choices, "-defghijklmnopqrs".indexOf(letters.charAt(place)) - 1);
        }
        show(script, dishes + " ");
    }

    private static void faultsAre(MenuScript script, int... byRules) {
        int gaps = shown(script).replaceAll("[^-]", "").length();
        int all = gaps;
        for (int rule = 0; rule < byRules.length; rule++) {
            Check.sameLong("faultsOf(" + rule + ") of " + shown(script), script.faultsOf(rule), byRules[rule]);
            all += byRules[rule];
        }
        Check.sameLong("faults() of " + shown(script), script.faults(), all);
    }

    private static void planning() {
        MenuScript script = Check.compiled(START + "meal m:t or u or v;");
        Check.sameLong("days ahead of plan", script.count(6), 0);
        Check.isThrown("plan(0)", Check.BAD_ARGUMENT, () -> script.plan(0));
        Check.isThrown("plan(15)", Check.BAD_ARGUMENT, () -> script.plan(15));
        Check.isThrown("plan(-1)", Check.BAD_ARGUMENT, () -> script.plan(-1));
        Check.sameLong("plan(4)", script.plan(4), 0);
        Check.isThrown("plan(15) over a menu", Check.BAD_ARGUMENT, () -> script.plan(15));
        show(script, "d e f d ");
        Check.sameLong("plan(1)", script.plan(1), 0);
        Check.sameLong("days", script.count(6), 1);
        show(script, "d ");
        Check.sameLong("plan(14)", script.plan(14), 0);
        show(script, "d e f d e f d e f d e f d e ");
        show(menu(3, "meal m:d,t or u;meal n:not d,not t and not u and not v;"), "def- def- def- ");
        show(menu(3, "meal m:not d;meal n:d or f;"), "ed fd ef ");
        Check.sameLong("plan() with gaps", Check.compiled(START + "meal m:u and v;meal n:d;").plan(5), 5);
        Check.sameLong("plan() by rules", Check.compiled(START + "meal m:d;rule energy 101 to 200;rule least 9 u in 2;")
            .plan(5), 9);
    }

    private static void planningByApart() {
        show(menu(4, "meal m:d;rule apart 1 d;"), "d d d d ");
        show(menu(4, "meal m:d;rule apart 2 d;"), "d - d - ");
        show(menu(7, "meal m:d;rule apart 3 t;"), "d - - d - - d ");
        show(menu(5, "meal m:d or e;rule apart 3 d;"), "d e e d e ");
        show(menu(3, "meal m:d,d,e;rule apart 1 d;"), "d-e d-e d-e ");
        show(menu(3, "meal m:d,f,e;rule apart 2 t;"), "d-e --e d-e ");
        show(menu(12, "meal m:d;rule apart 9 d;"), "d - - - - - - - - d - - ");
    }

    private static void planningByMost() {
        show(menu(6, "meal m:d;rule most 2 d in 3;"), "d d - d d - ");
        show(menu(4, "meal m:d;rule most 0 d in 1;"), "- - - - ");
        show(menu(3, "meal m:d,d;rule most 3 t in 2;"), "dd d- dd ");
        show(menu(3, "meal m:d,d;rule most 3 d in 14;"), "dd d- -- ");
        show(menu(5, "meal m:t,t;rule most 1 d in 2;rule most 2 f in 3;"), "df f- d- f- df ");
    }

    /** Nothing of the menu ahead counts in the next one. */
    private static void planningAgain() {
        String rules = "meal m:t,t;rule apart 2 d;rule most 1 f in 2;rule least 2 t in 1;rule energy 300 to 400;";
        MenuScript script = menu(5, rules);
        String first = shown(script);
        int faults = script.faults();
        for (int rule = 0; rule < 4; rule++) {
            fill(script, "dd dd ff ff df");
            Check.sameLong("plan(5) again", script.plan(5), faults);
            show(script, first);
            Check.sameLong("faultsOf(" + rule + ") again", script.faultsOf(rule), menu(5, rules).faultsOf(rule));
        }
        fill(script, "dd dd ff ff df");
        Check.write(script, START + rules);
        Check.sameLong("compile() again", script.compile(), 0);
        Check.sameLong("faults() behind compile()", script.faults(), 0);
        Check.sameLong("plan(5) behind compile()", script.plan(5), faults);
        show(script, first);
    }

    /** The rules least and energy have no say in the planning, only in its faults. */
    private static void planningWithoutOtherRules() {
        MenuScript script = menu(3, "meal m:d or e;rule least 9 e in 1;rule energy 9000 to 9000;");
        show(script, "d e d ");
        faultsAre(script, 3, 3);
    }

    private static void places() {
        MenuScript script = menu(2, "meal m:t,u;meal n:u or v;");
        show(script, "def def ");
        int[][] wrong = {{-1, 0}, {2, 0}, {0, -1}, {0, 3}, {Integer.MAX_VALUE, 0}, {0, Integer.MIN_VALUE}};
        for (int[] place : wrong) {
            Check.isThrown("at", Check.OUT_OF_BOUNDS, () -> script.at(place[0], place[1]));
            Check.isThrown("set", Check.OUT_OF_BOUNDS, () -> script.set(place[0], place[1], -1));
            Check.isThrown("set", Check.OUT_OF_BOUNDS, () -> script.set(place[0], place[1], 1));
        }
        Check.isThrown("set(0, 0, -2)", Check.OUT_OF_BOUNDS, () -> script.set(0, 0, -2));
        Check.isThrown("set(0, 0, 3)", Check.OUT_OF_BOUNDS, () -> script.set(0, 0, 3));
        Check.isThrown("set(0, 0, 1)", Check.BAD_STATE, () -> script.set(0, 0, 1));
        Check.isThrown("set(0, 1, 0)", Check.BAD_STATE, () -> script.set(0, 1, 0));
        Check.sameLong("at(0, 0) behind what was thrown", script.at(0, 0), 0);
        Check.sameLong("set(0, 0, 2)", script.set(0, 0, 2), 0);
        Check.sameLong("set(0, 0, 2) again", script.set(0, 0, 2), 2);
        Check.sameLong("set(0, 0, -1)", script.set(0, 0, -1), 2);
        Check.sameLong("faults()", script.faults(), 1);
        Check.sameLong("set(0, 0, -1) again", script.set(0, 0, -1), -1);
        Check.sameLong("faults() again", script.faults(), 1);
        Check.sameLong("set(0, 0, 0)", script.set(0, 0, 0), -1);
        Check.sameLong("faults() at last", script.faults(), 0);
        Check.sameLong("at(0, 0) at last", script.at(0, 0), 0);
    }

    private static void faultsOfGaps() {
        MenuScript script = menu(3, "meal m:d,d;");
        fill(script, "d- -- -d");
        faultsAre(script);
        Check.sameLong("faults()", script.faults(), 4);
        Check.isThrown("faultsOf(-1)", Check.OUT_OF_BOUNDS, () -> script.faultsOf(-1));
        Check.isThrown("faultsOf(0)", Check.OUT_OF_BOUNDS, () -> script.faultsOf(0));
        MenuScript ruled = menu(3, "meal m:d,d;rule apart 1 d;rule apart 2 d;");
        Check.isThrown("faultsOf(2)", Check.OUT_OF_BOUNDS, () -> ruled.faultsOf(2));
        Check.isThrown("faultsOf(8)", Check.OUT_OF_BOUNDS, () -> ruled.faultsOf(8));
    }

    private static void faultsOfApart() {
        MenuScript script = menu(4, "meal m:t,t;rule apart 1 t;rule apart 2 t;rule apart 3 d;rule apart 9 f;");
        faultsAre(fillAndGet(script, "dd dd dd dd"), 4, 4 + 3 * 4, 4 + 3 * 4 + 2 * 4, 0);
        faultsAre(fillAndGet(script, "df -d f- df"), 2, 2 + 2 + 1 + 2, 2, 3);
        faultsAre(fillAndGet(script, "-- d- -- -d"), 0, 0, 1, 0);
        faultsAre(fillAndGet(script, "d- -- -- -d"), 0, 0, 0, 0);
        faultsAre(fillAndGet(script, "f- -- -- -f"), 0, 0, 0, 1);
    }

    private static void faultsOfMost() {
        MenuScript script = menu(4, "meal m:t,t;rule most 1 t in 1;rule most 2 d in 2;rule most 3 t in 4;"
            + "rule most 3 t in 5;rule most 0 f in 14;rule most 0 f in 3;");
        faultsAre(fillAndGet(script, "dd dd dd dd"), 4, 3, 1, 1, 0, 0);
        faultsAre(fillAndGet(script, "df -d -- df"), 2, 0, 1, 1, 1, 2);
        faultsAre(fillAndGet(script, "dd -d d- --"), 1, 1, 1, 1, 0, 0);
        faultsAre(fillAndGet(script, "-d -d d- --"), 0, 0, 0, 0, 0, 0);
    }

    private static void faultsOfLeast() {
        MenuScript script = menu(4, "meal m:t,t;rule least 1 t in 1;rule least 3 d in 2;rule least 4 t in 4;"
            + "rule least 9 t in 5;rule least 1 f in 3;");
        faultsAre(fillAndGet(script, "dd dd dd dd"), 0, 0, 0, 0, 2);
        faultsAre(fillAndGet(script, "-- -- -- --"), 4, 3, 1, 0, 2);
        faultsAre(fillAndGet(script, "dd d- -- ff"), 1, 2, 0, 0, 1);
        faultsAre(fillAndGet(script, "dd d- -- --"), 2, 2, 1, 0, 2);
    }

    private static void faultsOfEnergy() {
        // d is 100, e is 100, f is 133 a serving.
        MenuScript script = menu(4, "meal m:t or u,t or u;rule energy 0 to 200;rule energy 1 to 9999;"
            + "rule energy 200 to 233;rule energy 201 to 233;rule energy 100 to 232;rule energy 0 to 0;");
        faultsAre(fillAndGet(script, "de df d- --"), 1, 1, 2, 3, 2, 3);
        faultsAre(fillAndGet(script, "ff -e -- e-"), 1, 1, 4, 4, 2, 3);
    }

    private static MenuScript fillAndGet(MenuScript script, String dishes) {
        fill(script, dishes);
        return script;
    }

    private static void improving() {
        MenuScript least = menu(3, "meal m:d or e,t;rule least 1 e in 1;");
        fill(least, "d- dd e-");
        faultsAre(least, 2);
        Check.sameLong("improve()", least.improve(), 3);
        show(least, "e- dd e- ");
        Check.sameLong("improve()", least.improve(), 2);
        show(least, "ed dd e- ");
        Check.sameLong("improve()", least.improve(), 1);
        show(least, "ed ed e- ");
        Check.sameLong("improve()", least.improve(), 0);
        show(least, "ed ed ed ");
        Check.sameLong("improve()", least.improve(), 0);
        show(least, "ed ed ed ");

        MenuScript stuck = menu(2, "meal m:d;rule most 0 d in 1;");
        Check.sameLong("improve() that would make no fewer", stuck.improve(), 2);
        show(stuck, "- - ");

        MenuScript best = menu(3, "meal m:t or u,t or u;rule most 0 f in 1;rule most 0 d in 2;rule apart 3 f;");
        fill(best, "df ff de");
        Check.sameLong("faults() ahead", best.faults(), 2 + 2 + 3);
        Check.sameLong("improve() to the best", best.improve(), 4);
        show(best, "dd ff de ");
        Check.sameLong("improve() to the best", best.improve(), 3);
        show(best, "dd df de ");
        Check.sameLong("improve() of a menu of no days", Check.compiled(START + "meal m:d;").improve(), 0);
    }

    /** Of several changes that leave the fewest faults, the least day comes first, then the choice, then the dish. */
    private static void improvingTies() {
        MenuScript script = menu(3, "meal m:t or u,t or u;rule energy 1 to 9999;");
        fill(script, "-- -- --");
        Check.sameLong("improve() of nothing", script.improve(), 7);
        show(script, "d- -- -- ");
        Check.sameLong("improve() of the next day", script.improve(), 5);
        show(script, "d- d- -- ");
        Check.sameLong("improve() of the last day", script.improve(), 3);
        show(script, "d- d- d- ");
        Check.sameLong("improve() of the next choice", script.improve(), 2);
        show(script, "dd d- d- ");

        MenuScript later = menu(2, "meal m:t,t or u;rule least 1 e in 1;rule most 0 d in 14;rule most 0 f in 14;");
        fill(later, "d- fd");
        Check.sameLong("faults() ahead", later.faults(), 1 + 2 + 1 + 1);
        Check.sameLong("improve() of the last choice", later.improve(), 3);
        show(later, "de fd ");
        // The dish e in the last place would leave two faults too, but in a later choice.
        Check.sameLong("improve() of the choice ahead", later.improve(), 2);
        show(later, "de dd ");
        Check.sameLong("improve() of the last place", later.improve(), 1);
        show(later, "de de ");
        Check.sameLong("improve() that would make more", later.improve(), 1);
        show(later, "de de ");
    }

    /** No dish at all is no change that improve makes, however many faults it would take away. */
    private static void improvingTakesNothingAway() {
        MenuScript script = menu(1, "meal m:d,d,d;rule apart 1 d;rule apart 2 d;rule most 0 d in 1;");
        fill(script, "ddd");
        Check.sameLong("improve()", script.improve(), 3 + 3 + 1);
        show(script, "ddd ");
        fill(script, "-dd");
        Check.sameLong("improve() with a gap", script.improve(), 1 + 1 + 1 + 1);
        show(script, "-dd ");
    }

    private static void exchanging() {
        MenuScript script = menu(3, "meal m:t,t;rule apart 2 d;");
        fill(script, "dd -f ff");
        faultsAre(script, 1);
        Check.isThrown("exchange(0, 0)", Check.BAD_ARGUMENT, () -> script.exchange(0, 0));
        Check.isThrown("exchange(2, 2)", Check.BAD_ARGUMENT, () -> script.exchange(2, 2));
        Check.isThrown("exchange(3, 3)", Check.OUT_OF_BOUNDS, () -> script.exchange(3, 3));
        Check.isThrown("exchange(-1, -1)", Check.OUT_OF_BOUNDS, () -> script.exchange(-1, -1));
        Check.isThrown("exchange(0, 3)", Check.OUT_OF_BOUNDS, () -> script.exchange(0, 3));
        Check.isThrown("exchange(3, 0)", Check.OUT_OF_BOUNDS, () -> script.exchange(3, 0));
        Check.isThrown("exchange(-1, 0)", Check.OUT_OF_BOUNDS, () -> script.exchange(-1, 0));
        Check.sameLong("exchange(0, 1)", script.exchange(0, 1), 2);
        show(script, "-f dd ff ");
        Check.sameLong("exchange(2, 0)", script.exchange(2, 0), 2);
        show(script, "ff dd -f ");
        fill(script, "df ff df");
        faultsAre(script, 0);
        Check.sameLong("exchange(1, 2)", script.exchange(1, 2), 1);
        show(script, "df df ff ");
        Check.sameLong("energy of day 0", script.day(0, false), 233);
        Check.sameLong("energy of day 2", script.day(2, false), 266);
    }

    private static void daysAndTimes() {
        // d is 100 and 50, e is 100 and 4, f is 133 and 16 a serving.
        MenuScript script = menu(3, "meal m:t or u,t or u;");
        fill(script, "de ff --");
        int[] energies = {200, 266, 0};
        int[] prices = {54, 32, 0};
        int[] times = {1, 1, 2};
        for (int i = 0; i < 3; i++) {
            Check.sameLong("day(" + i + ", false)", script.day(i, false), energies[i]);
            Check.sameLong("day(" + i + ", true)", script.day(i, true), prices[i]);
            Check.sameLong("times(" + i + ")", script.times(i), times[i]);
        }
        Check.isThrown("day(-1, true)", Check.OUT_OF_BOUNDS, () -> script.day(-1, true));
        Check.isThrown("day(3, false)", Check.OUT_OF_BOUNDS, () -> script.day(3, false));
        Check.isThrown("times(-1)", Check.OUT_OF_BOUNDS, () -> script.times(-1));
        Check.isThrown("times(3)", Check.OUT_OF_BOUNDS, () -> script.times(3));
        script.plan(1);
        Check.sameLong("times(2) behind plan", script.times(2), 0);
        Check.sameLong("times(0) behind plan", script.times(0), 1);
        Check.sameLong("day(0, false) behind plan", script.day(0, false), 200);
    }

    private static void buying() {
        MenuScript script = menu(3, "meal m:t or u,t or u;");
        fill(script, "de ff f-");
        Check.sameLong("buy(0, 1)", script.buy(0, 1), 100 + 3 * 33);
        Check.sameLong("buy(0, 2)", script.buy(0, 2), 200 + 3 * 66);
        Check.sameLong("buy(0, 3)", script.buy(0, 3), 300 + 3 * 100);
        Check.sameLong("buy(1, 1000)", script.buy(1, 1000), 50000);
        Check.sameLong("buy(2, 7)", script.buy(2, 7), 3 * 233);
        Check.isThrown("buy(0, 0)", Check.BAD_ARGUMENT, () -> script.buy(0, 0));
        Check.isThrown("buy(0, 1001)", Check.BAD_ARGUMENT, () -> script.buy(0, 1001));
        Check.isThrown("buy(0, -1)", Check.BAD_ARGUMENT, () -> script.buy(0, -1));
        Check.isThrown("buy(3, 0)", Check.OUT_OF_BOUNDS, () -> script.buy(3, 0));
        Check.isThrown("buy(-1, 1)", Check.OUT_OF_BOUNDS, () -> script.buy(-1, 1));
        MenuScript large = Check.compiled("food w 0;dish p for 1:" + Check.repeat(8, "2000 w", ",")
            + ";dish q for 1:6 of p,2000 w,2000 w;meal m:" + Check.repeat(8, "q", ",") + ";");
        Check.sameLong("buy of no days", large.buy(0, 1000), 0);
        large.plan(14);
        Check.sameLong("buy of very much", large.buy(0, 1000), 11200000000L);
    }

    private static void prices() {
        MenuScript script = menu(3, "meal m:t or u,t or u;");
        fill(script, "de ff --");
        Check.same("meanPrice()", script.meanPrice(), 86.0 / 4);
        fill(script, "-- -d e-");
        Check.same("meanPrice()", script.meanPrice(), 27);
        fill(script, "-- -- d-");
        Check.same("meanPrice() of one dish", script.meanPrice(), 50);
        fill(script, "-d -d e-");
        Check.same("meanPrice()", script.meanPrice(), 104.0 / 3);
        fill(script, "-- -- --");
        Check.same("meanPrice() of none", script.meanPrice(), 0);
        Check.same("meanPrice() of no days", Check.compiled(START + "meal m:d;").meanPrice(), 0);
    }
}
