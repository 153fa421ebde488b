/** Promises 4, 5 and 7 as far as they tell of the errors 2 to 6, and which of them comes first. */
public final class MeaningTest {
    private static final String FOOD = "food a 1;";
    private static final String START = "food a 1;dish d for 1:1 a is t;";
    private static final String MEAL = "meal m:d;";

    public static void main(String[] args) {
        unknownNames();
        takenNames();
        namesAlike();
        tooManyItems();
        tooManyPartsAndTags();
        ranges();
        rangesOfRules();
        dishesTooLarge();
        nothingTold();
        whichIsFirst();
        namesOfTest();
        programIsGone();
        latestError();
        testLeavesTheProgram();
        Check.end("MeaningTest");
    }

    private static void unknownNames() {
        Check.compileError(2, "dish d for 1:1 ^a;food a 1;" + MEAL);
        Check.compileError(2, FOOD + "dish d for 1:1 a,1 ^b;" + MEAL);
        Check.compileError(2, FOOD + "dish d for 1:1 of ^a;" + MEAL);
        Check.compileError(2, FOOD + "dish d for 1:1 ^d;" + MEAL);
        Check.compileError(2, FOOD + "dish d for 1:1 of ^d;" + MEAL);
        Check.compileError(2, FOOD + "dish d for 1:1 of ^e;dish e for 1:1 a;" + MEAL);
        Check.compileError(2, START + "dish e for 1:1 ^d;" + MEAL);
        Check.compileError(2, START + "dish e for 1:1 ^t;" + MEAL);
        Check.compileError(2, START + "meal m:^a;");
        Check.compileError(2, START + "meal m:^m;");
        Check.compileError(2, START + "meal m:t and not (d or ^u);");
        Check.compileError(2, START + "meal m:d,^u;food b 1 is u;");
        Check.compileError(2, START + "meal m:d or ^e;dish e for 1:1 a;");
        Check.compileError(2, "meal m:^d;" + START);
        Check.compileError(2, START + MEAL + "rule apart 1 ^a;");
        Check.compileError(2, START + MEAL + "rule apart 1 ^m;");
        Check.compileError(2, START + MEAL + "rule most 1 ^u in 1;");
        Check.compileError(2, START + MEAL + "rule least 1 ^u in 1;dish e for 1:1 a is u;");
        Check.compileError(2, "rule least 1 ^t in 1;" + START + MEAL);
        Check.compiled("food b 1 is u;rule apart 1 u;food a 1;meal m:u;dish d for 1:1 a is t;rule most 1 t in 1;"
            + "meal n:d,t,u;");
    }

    private static void takenNames() {
        Check.compileError(3, "food a 1;food ^a 2;");
        Check.compileError(3, "food a 1;dish ^a for 1:1 a;");
        Check.compileError(3, START + "dish ^d for 1:1 a;" + MEAL);
        Check.compileError(3, START + "meal ^a:d;");
        Check.compileError(3, START + "meal ^d:d;");
        Check.compileError(3, START + MEAL + "meal ^m:d;");
        Check.compileError(3, START + MEAL + "food ^d 1;");
        Check.compileError(3, START + MEAL + "food ^m 1;");
        Check.compileError(3, START + MEAL + "dish ^m for 1:1 a;");
        Check.compileError(3, "food a 1;food b 1;food c 1;food ^a 1;");
        Check.compiled("food a 1 is a,d,m;dish d for 1:1 a is d,m;meal m:m,a,d;rule apart 1 a;food t 1;dish u for 1:1 t;");
    }

    private static void namesAlike() {
        String[] names = {"a", "aa", "aaa", "b", "bb", "ab", "ba", "z", "zz", "az", "za", "aaaaaaaaaa", "zzzzzzzzzz",
            "aaaaaaaaab", "baaaaaaaaa", "yz"};
        StringBuilder foods = new StringBuilder();
        StringBuilder tags = new StringBuilder();
        for (int i = 0; i < names.length; i++) {
            foods.append("food ").append(names[i]).append(" ").append(i).append(";");
            tags.append(i == 0 ? "" : ",").append(names[i]);
        }
        MenuScript script = Check.compiled(foods + "dish d for 1:100 aa,100 zz is " + tags + ";" + MEAL);
        Check.sameLong("the energy of like names", script.dish(0, 1), 1 + 8);
        Check.sameLong("the tags of like names", script.count(5), 16);
        Check.sameLong("the grams of aa", script.grams(0, 1), 100);
        for (String name : names) {
            Check.compileError(3, foods + "dish ^" + name + " for 1:1 a;");
            Check.compileError(2, "food q 1;dish d for 1:1 ^" + name + ";");
            Check.testError(script, 2, "^" + name.substring(name.length() / 10) + "q");
        }
    }

    private static void tooManyItems() {
        String foods = Check.series(16, "food x@ 1;", "");
        Check.compiled(foods + "dish d for 1:1 xp;" + MEAL);
        Check.compileError(4, foods + "^food xa 9999 price 9999;");
        Check.compileError(4, foods + "dish d for 1:1 xp;" + MEAL + "^food xq 1;");
        String dishes = FOOD + Check.series(16, "dish x@ for 1:1 a;", "");
        Check.compiled(dishes + "meal m:xp;");
        Check.compileError(4, dishes + "^dish xa for 0:1 a;meal m:xa;");
        String meals = START + Check.series(4, "meal x@:d;", "");
        Check.compiled(meals);
        Check.compileError(4, meals + "^meal xe:d;");
        Check.compileError(4, meals + "^meal xa:nosuch;");
        Check.compiled(START + "meal m:" + Check.repeat(8, "d", ",") + ";");
        Check.compileError(4, START + "meal m:" + Check.repeat(8, "d", ",") + ",^d;");
        Check.compileError(4, START + "meal m:" + Check.repeat(8, "d", ",") + ",^nosuch;");
        Check.compileError(4, START + "meal m:" + Check.repeat(8, "d", ",") + ",^(d);");
        Check.compileError(4, START + "meal m:d,d,d;meal n:d,d;meal o:d,d,d;meal p:^not d;");
        Check.compiled(START + "meal m:d,d,d;meal n:d,d;meal o:d,d;meal p:not d;");
        Check.compiled(START + MEAL + Check.repeat(8, "rule apart 1 t;", ""));
        Check.compileError(4, START + MEAL + Check.repeat(8, "rule apart 1 t;", "") + "^rule apart 0 t;");
        Check.compileError(4, START + MEAL + Check.repeat(2, "rule apart 1 t;rule most 1 t in 1;"
            + "rule least 1 t in 1;rule energy 1 to 2;", "") + "^rule energy 1 to 2;");
    }

    private static void tooManyPartsAndTags() {
        Check.compiled(FOOD + "dish d for 1:" + Check.repeat(8, "1 a", ",") + ";" + MEAL);
        Check.compileError(4, FOOD + "dish d for 1:" + Check.repeat(8, "1 a", ",") + ",^1 a;" + MEAL);
        Check.compileError(4, FOOD + "dish d for 1:" + Check.repeat(8, "1 a", ",") + ",^0 of b;" + MEAL);
        Check.compileError(2, FOOD + "dish d for 1:" + Check.repeat(7, "1 a", ",") + ",1 ^b,1 a;" + MEAL);
        Check.compiled("food a 1 is " + Check.series(16, "x@", ",") + ";dish d for 1:1 a is xp,xa;"
            + MEAL);
        Check.compileError(4, "food a 1 is " + Check.series(16, "x@", ",") + ",^xq;");
        Check.compileError(4, "food a 1 is " + Check.series(16, "x@", ",") + ",xa;dish d for 1:1 a is xb,^y;");
        Check.compileError(4, "food a 1 is " + Check.series(8, "x@", ",") + ";food b 1 is " + Check.series(8, "y@", ",")
            + ";dish d for 1:1 a is ya,xa,^z;");
        Check.compiled("food a 1 is " + Check.series(8, "x@", ",") + ",xa;food b 1 is " + Check.series(8, "y@", ",")
            + ",xa;dish d for 1:1 a is ya,xa,yh;" + MEAL);
    }

    private static void ranges() {
        Check.compiled("food a 900 price 999;food b 0 price 0;dish d for 20:2000 a,1 b;dish e for 1:1 of d,900 of d;"
            + "dish f for 20:20 b;dish g for 1:2000 of f;" + MEAL);
        Check.compileError(5, "food a ^901;");
        Check.compileError(5, "food a ^9999;");
        Check.compileError(5, "food a 1 price ^1000;");
        Check.compileError(5, FOOD + "dish d for ^0:1 a;" + MEAL);
        Check.compileError(5, FOOD + "dish d for ^21:1 a;" + MEAL);
        Check.compileError(5, FOOD + "dish d for 1:^0 a;" + MEAL);
        Check.compileError(5, FOOD + "dish d for 1:1 a,^2001 a;" + MEAL);
        Check.compileError(5, START + "dish e for 1:^0 of d;" + MEAL);
        Check.compileError(5, START + "dish e for 1:^2001 of d;" + MEAL);
    }

    private static void rangesOfRules() {
        Check.compiled(START + MEAL + "rule apart 1 t;rule apart 9 t;rule most 0 t in 1;rule most 9 t in 14;"
            + "rule least 1 t in 1;rule least 9 t in 14;rule energy 0 to 0;rule energy 9999 to 9999;");
        Check.compiled(START + MEAL + "rule energy 0 to 9999;rule energy 7 to 7;rule energy 7 to 8;");
        Check.compileError(5, START + MEAL + "rule apart ^0 t;");
        Check.compileError(5, START + MEAL + "rule apart ^10 t;");
        Check.compileError(5, START + MEAL + "rule most ^10 t in 1;");
        Check.compileError(5, START + MEAL + "rule most 1 t in ^0;");
        Check.compileError(5, START + MEAL + "rule most 1 t in ^15;");
        Check.compileError(5, START + MEAL + "rule least ^0 t in 1;");
        Check.compileError(5, START + MEAL + "rule least ^10 t in 1;");
        Check.compileError(5, START + MEAL + "rule least 1 t in ^0;");
        Check.compileError(5, START + MEAL + "rule least 1 d in ^15;");
        Check.compileError(5, START + MEAL + "rule energy 7 to ^6;");
        Check.compileError(5, START + MEAL + "rule energy 1 to ^0;");
    }

    private static void dishesTooLarge() {
        // The grams of 1 of 20 servings are cut to 0, so that energy and price can become large without them.
        String weightless = "dish p for 20:19 f;dish q for 1:" + Check.repeat(5, "1 of p", ",")
            + ";dish r for 1:25 of q;";
        String energies = "food f 900;food g 100;" + weightless;
        Check.compiled(energies + "dish d for 1:1000 of r;" + MEAL);
        Check.compileError(5, energies + "dish ^d for 1:1000 of r,1 g;" + MEAL);
        Check.compileError(5, energies + "dish ^d for 20:1000 of r,1 g;" + MEAL);
        Check.compileError(5, energies + "dish ^d for 20:2000 of r;" + MEAL);
        String prices = "food f 0 price 900;food g 0 price 100;" + weightless;
        Check.compiled(prices + "dish d for 1:1000 of r;" + MEAL);
        Check.compileError(5, prices + "dish ^d for 1:1000 of r,1 g;" + MEAL);
        for (int parts = 1; parts <= 8; parts++) {
            String largest = "dish s for 1:1000 of r;dish ^d for 1:" + Check.repeat(parts, "2000 of s", ",") + ";";
            Check.compileError(5, energies + largest + MEAL);
            Check.compileError(5, prices + largest + MEAL);
        }
        String grams = "food a 0;food b 0;dish e for 1:1000 a,1000 b;";
        Check.compiled(grams + "dish d for 1:50 of e;" + MEAL);
        Check.compileError(5, grams + "dish ^d for 1:50 of e,1 b;" + MEAL);
        Check.compileError(5, grams + "dish ^d for 1:49 of e,1000 b,1000 b,1 a is t;" + MEAL);
        Check.compileError(5, "food w 0;dish p for 1:" + Check.repeat(8, "2000 w", ",")
            + ";dish q for 1:6 of p,2000 w,2000 w;dish ^d for 1:" + Check.repeat(8, "2000 of q", ",") + ";" + MEAL);
        Check.compileError(5, "food f 900 price 999;dish p for 1:" + Check.repeat(8, "2000 f", ",")
            + ";dish q for 1:6 of p;dish ^d for 1:" + Check.repeat(8, "2000 of q", ",") + ";" + MEAL);
    }

    private static void nothingTold() {
        Check.compileError(6, "food a 1;^");
        Check.compileError(6, "food a 1; \n ^");
        Check.compileError(6, START + "^");
        Check.compileError(6, "food a 1 is t;meal m:t;^");
        Check.compileError(6, START + "rule apart 1 t; ^");
    }

    private static void whichIsFirst() {
        Check.compileError(5, "food a ^901;food a 1;dish d for 0:1 x;");
        Check.compileError(3, "food a 1;food ^a 901;");
        Check.compileError(5, "food a ^901 price 1000;");
        Check.compileError(3, FOOD + "dish ^a for 0:0 x;");
        Check.compileError(5, FOOD + "dish d for ^0:0 x;");
        Check.compileError(5, FOOD + "dish d for 1:^0 x;");
        Check.compileError(2, FOOD + "dish d for 1:1 ^x,0 a;");
        Check.compileError(3, START + "meal ^d:nosuch;");
        Check.compileError(5, START + MEAL + "rule apart ^0 nosuch;");
        Check.compileError(2, START + MEAL + "rule apart 1 ^nosuch;rule apart 0 t;");
        Check.compileError(5, START + MEAL + "rule most ^10 nosuch in 0;");
        Check.compileError(2, START + MEAL + "rule most 1 ^nosuch in 0;");
        Check.compileError(5, START + MEAL + "rule least ^0 nosuch in 0;");
        Check.compileError(2, START + MEAL + "rule least 1 ^nosuch in 15;");
        String large = "food w 0;dish p for 1:2000 w;dish q for 1:2000 of p,";
        Check.compileError(5, large.replace("dish q", "dish ^q") + "1 w is t;dish q for 0:1 w;");
        Check.compileError(2, large + "1 ^nosuch is t;");
        Check.compileError(5, large + "^0 w is t;");
        Check.compileError(4, large + "1 w is " + Check.series(16, "x@", ",") + ",^y;");
        Check.compileError(4, large + Check.repeat(7, "1 w", ",") + ",^1 w;");
        Check.compileError(1, "food a 901;food a 901^:");
    }

    private static void namesOfTest() {
        MenuScript empty = new MenuScript();
        Check.testError(empty, 2, "not (^d)");
        Check.testError(empty, 1, "d d".replace(" d", " ^d"));
        MenuScript script = Check.compiled("food a 1 is t;dish d for 1:1 a;meal m:d;food b 1 is u;dish e for 1:1 b;");
        Check.testError(script, 2, "^a");
        Check.testError(script, 2, "d or ^m");
        Check.testError(script, 2, "d and not (^nosuch or nosuch)");
        Check.suits(script, 3, "d or e");
        Check.suits(script, 3, "t or u");
        Check.sameLong("count(5) behind test", script.count(5), 2);
        Check.testError(script, 2, "d or ^dd");
        Check.testError(script, 2, "^x");
    }

    private static void programIsGone() {
        String[] programs = {"food a 1", "food a 901;", START, ""};
        for (String program : programs) {
            MenuScript script = Check.compiled(START + MEAL + "rule least 2 d in 2;rule energy 9 to 9;");
            script.plan(3);
            Check.sameLong("faults() of the plan", script.faults(), 3);
            Check.suits(script, 1, "d");
            Check.write(script, program);
            Check.sameLong("compile() of " + program + " is no 0", script.compile() == 0 ? 1 : 0, 0);
            for (int what = 0; what < 8; what++) {
                Check.sameLong("count(" + what + ") behind an error", script.count(what), 0);
            }
            Check.sameLong("suited() behind an error", script.suited(), 0);
            Check.sameLong("faults() behind an error", script.faults(), 0);
            Check.sameLong("digest() behind an error", script.digest(), 9491824355680889L);
            Check.same("meanPrice() behind an error", script.meanPrice(), 0);
            Check.isThrown("plan(3) behind an error", Check.BAD_STATE, () -> script.plan(3));
            Check.isThrown("at(0, 0) behind an error", Check.OUT_OF_BOUNDS, () -> script.at(0, 0));
            Check.testError(script, 2, "^d");
            Check.testError(script, 2, "^t");
            Check.write(script, START + MEAL);
            Check.sameLong("compile() once more", script.compile(), 0);
            Check.sameLong("errorAt() once more", script.errorAt(), -1);
        }
        MenuScript script = Check.compiled(START + MEAL + "rule apart 2 d;rule least 3 d in 2;rule energy 9 to 9;");
        script.plan(4);
        script.set(1, 0, 0);
        Check.suits(script, 1, "d");
        Check.write(script, START + "meal m:d,d;" + "rule energy 1 to 9;rule most 0 d in 1;rule apart 1 d;");
        Check.sameLong("compile() over a program", script.compile(), 0);
        Check.sameLong("suited() behind compile", script.suited(), 0);
        Check.sameLong("days behind compile", script.count(6), 0);
        Check.sameLong("faults() behind compile", script.faults(), 0);
        for (int rule = 0; rule < 3; rule++) {
            Check.sameLong("faultsOf behind compile", script.faultsOf(rule), 0);
        }
        Check.sameLong("times behind compile", script.times(0), 0);
        Check.sameLong("buy behind compile", script.buy(0, 9), 0);
    }

    /** The position is that of the latest compile or test, and no other call changes it. */
    private static void latestError() {
        MenuScript script = new MenuScript();
        Check.sameLong("errorAt() ahead of all", script.errorAt(), -1);
        Check.sameLong("compile() of an empty tape", script.compile(), 1);
        Check.sameLong("errorAt() of an empty tape", script.errorAt(), 0);
        Check.write(script, START + MEAL);
        Check.sameLong("errorAt() behind feed and trim", script.errorAt(), 0);
        Check.sameLong("compile()", script.compile(), 0);
        Check.sameLong("errorAt() without an error", script.errorAt(), -1);
        Check.testError(script, 2, "d or ^nosuch");
        script.plan(3);
        script.set(0, 0, -1);
        script.improve();
        script.exchange(0, 1);
        Check.isThrown("plan(0)", Check.BAD_ARGUMENT, () -> script.plan(0));
        Check.sameLong("errorAt() behind other calls", script.errorAt(), 5);
        Check.sameLong("test() of an empty tape", script.test(), 1);
        Check.sameLong("errorAt() of an empty choice", script.errorAt(), 0);
        Check.suits(script, 1, "d");
        Check.write(script, "food a 901;");
        Check.sameLong("errorAt() ahead of compile", script.errorAt(), -1);
        Check.sameLong("compile() of a wrong number", script.compile(), 5);
        Check.sameLong("errorAt() of a wrong number", script.errorAt(), 7);
    }

    private static void testLeavesTheProgram() {
        String[] choices = {"d", "not d", "nosuch", "d d", "", START + MEAL};
        int[] errors = {0, 0, 2, 1, 1, 1};
        MenuScript script = Check.compiled(START + MEAL + "rule apart 2 t;");
        script.plan(5);
        long digest = script.digest();
        for (int i = 0; i < choices.length; i++) {
            Check.write(script, choices[i]);
            Check.sameLong("test() of " + choices[i], script.test(), errors[i]);
            Check.sameLong("digest() behind test() of " + choices[i], script.digest(), digest);
        }
    }
}
