/** Promises 6 and 8 to 13: counts, suited dishes, and what is told of foods, dishes, choices and rules. */
public final class FactsTest {
    public static void main(String[] args) {
        counts();
        foods();
        dishes();
        dishesOfDishes();
        choices();
        namesOfDishesAndTags();
        rules();
        suitedSets();
        setsOfSixteen();
        Check.end("FactsTest");
    }

    private static void counts() {
        MenuScript script = Check.compiled("food a 1 is t,u;food b 2 is u;food c 3;food d 4;food e 5;food f 6;food g 7;"
            + "dish x for 1:1 a;dish y for 1:1 b is v;meal m:x,y;meal n:x;rule apart 1 x;rule most 1 t in 1;"
            + "rule least 1 u in 1;rule energy 1 to 2;");
        script.plan(9);
        script.feed(0, 0, 0, 0, 0);
        int[] due = {7, 2, 2, 3, 4, 3, 9, 20};
        for (int what = 0; what < 8; what++) {
            Check.sameLong("count(" + what + ")", script.count(what), due[what]);
        }
        Check.isThrown("count(-1)", Check.OUT_OF_BOUNDS, () -> script.count(-1));
        Check.isThrown("count(8)", Check.OUT_OF_BOUNDS, () -> script.count(8));
    }

    private static void foods() {
        MenuScript script = Check.compiled("food a 900 price 999 is t,u,t;food b 7 is v,u;food c 0 price 3;food e 12;"
            + "dish d for 1:1 a;meal m:d;");
        int[][] due = {{900, 999, 3}, {7, 0, 6}, {0, 3, 0}, {12, 0, 0}};
        for (int food = 0; food < 4; food++) {
            for (int what = 0; what < 3; what++) {
                Check.sameLong("food(" + food + ", " + what + ")", script.food(food, what), due[food][what]);
            }
        }
        Check.isThrown("food(-1, 0)", Check.OUT_OF_BOUNDS, () -> script.food(-1, 0));
        Check.isThrown("food(4, 0)", Check.OUT_OF_BOUNDS, () -> script.food(4, 0));
        Check.isThrown("food(0, -1)", Check.OUT_OF_BOUNDS, () -> script.food(0, -1));
        Check.isThrown("food(0, 3)", Check.OUT_OF_BOUNDS, () -> script.food(0, 3));
        // What the program ahead told must not be left over.
        Check.write(script, "food a 5;food b 6;dish d for 1:1 b;meal m:d;");
        Check.sameLong("compile() once more", script.compile(), 0);
        Check.sameLong("food(0, 1) of the next program", script.food(0, 1), 0);
        Check.sameLong("food(0, 2) of the next program", script.food(0, 2), 0);
        Check.sameLong("food(1, 0) of the next program", script.food(1, 0), 6);
        Check.sameLong("grams(0, 0) of the next program", script.grams(0, 0), 0);
        Check.isThrown("food(2, 0) of the next program", Check.OUT_OF_BOUNDS, () -> script.food(2, 0));
    }

    private static void dishes() {
        // Each part is cut for itself: 1 * 150 / 100 twice is 2, and not 3.
        MenuScript script = Check.compiled("food a 150 price 199 is t;food b 99 price 7 is u;"
            + "dish c for 1:1 a,1 a;dish d for 3:10 a,5 b,10 a is v,w,t;dish e for 20:2000 b;meal m:d;food z 1;");
        int[][] due = {{1, 2, 2, 1, 2}, {3, 11, 12, 15, 3}, {20, 99, 7, 2, 1}};
        int[][] grams = {{2, 0, 0}, {20, 5, 0}, {0, 2000, 0}};
        for (int dish = 0; dish < 3; dish++) {
            for (int what = 0; what < 5; what++) {
                Check.sameLong("dish(" + dish + ", " + what + ")", script.dish(dish, what), due[dish][what]);
            }
            for (int food = 0; food < 3; food++) {
                Check.sameLong("grams(" + dish + ", " + food + ")", script.grams(dish, food), grams[dish][food]);
            }
        }
        Check.isThrown("dish(-1, 0)", Check.OUT_OF_BOUNDS, () -> script.dish(-1, 0));
        Check.isThrown("dish(3, 0)", Check.OUT_OF_BOUNDS, () -> script.dish(3, 0));
        Check.isThrown("dish(0, -1)", Check.OUT_OF_BOUNDS, () -> script.dish(0, -1));
        Check.isThrown("dish(0, 5)", Check.OUT_OF_BOUNDS, () -> script.dish(0, 5));
        Check.isThrown("grams(-1, 0)", Check.OUT_OF_BOUNDS, () -> script.grams(-1, 0));
        Check.isThrown("grams(3, 0)", Check.OUT_OF_BOUNDS, () -> script.grams(3, 0));
        Check.isThrown("grams(0, -1)", Check.OUT_OF_BOUNDS, () -> script.grams(0, -1));
        Check.isThrown("grams(0, 3)", Check.OUT_OF_BOUNDS, () -> script.grams(0, 3));
    }

    private static void dishesOfDishes() {
        // soup: 300 leek for 4, energy 3 * 31 = 93, a serving 23; stew: 5 of soup are 115 and 375 grams of leek.
        MenuScript script = Check.compiled("food leek 31 price 40 is green;food oil 900 price 75 is fat;"
            + "dish soup for 4:300 leek is hot;dish stew for 3:5 of soup,10 oil,7 leek is thick;"
            + "dish feast for 2:7 of stew,1 of soup,2 of stew;meal m:soup;food rice 350;");
        int[][] due = {{4, 23, 30, 5, 1}, {3, 69, 53, 15, 3}, {2, 322, 253, 15, 3}};
        // feast: 7 * 382 / 3 + 75 + 2 * 382 / 3 = 891 + 75 + 254 of leek, 7 * 10 / 3 + 2 * 10 / 3 = 23 + 6 of oil.
        int[][] grams = {{300, 0, 0}, {382, 10, 0}, {1220, 29, 0}};
        for (int dish = 0; dish < 3; dish++) {
            for (int what = 0; what < 5; what++) {
                Check.sameLong("dish(" + dish + ", " + what + ")", script.dish(dish, what), due[dish][what]);
            }
            for (int food = 0; food < 3; food++) {
                Check.sameLong("grams(" + dish + ", " + food + ")", script.grams(dish, food), grams[dish][food]);
            }
        }
        MenuScript large = Check.compiled("food w 0;dish p for 1:" + Check.repeat(8, "2000 w", ",")
            + ";dish q for 1:6 of p,2000 w,2000 w;dish r for 20:1 of q;"
            + "dish s for 1:20 of r;meal m:q;");
        Check.sameLong("grams of q", large.grams(1, 0), 100000);
        Check.sameLong("grams of r", large.grams(2, 0), 100000);
        Check.sameLong("grams of s", large.grams(3, 0), 100000);
    }

    private static void choices() {
        MenuScript script = Check.compiled("food a 1 is t;food b 1 is u;food c 1;"
            + "dish d for 1:1 a;dish e for 1:1 b;dish f for 1:1 a,1 b;dish g for 1:1 c is v;"
            + "meal m:t,not t,t or u,t and u;meal n:not t or u and not v,(not t or u)and not v,d or e and not(f or g);"
            + "meal o:not not v or not(t and u or v)and not d;");
        int[][] due = {{0, 5}, {0, 10}, {0, 7}, {0, 4}, {1, 14}, {1, 6}, {1, 3}, {2, 10}};
        for (int choice = 0; choice < 8; choice++) {
            Check.sameLong("choice(" + choice + ", true)", script.choice(choice, true), due[choice][0]);
            Check.sameLong("choice(" + choice + ", false)", script.choice(choice, false), due[choice][1]);
        }
        Check.isThrown("choice(-1, true)", Check.OUT_OF_BOUNDS, () -> script.choice(-1, true));
        Check.isThrown("choice(8, true)", Check.OUT_OF_BOUNDS, () -> script.choice(8, true));
        Check.isThrown("choice(8, false)", Check.OUT_OF_BOUNDS, () -> script.choice(8, false));
        String[] rights = {"t and u and v", "t or u and v", "t and u or v", "t or u or v and t", "not t and u",
            "not(t and u)", "t and not u or u and not t", "not t and not u and not v or t and u", "v and t or t or v"};
        int[] sets = {0, 5, 12, 7, 2, 11, 3, 4, 13};
        for (int i = 0; i < rights.length; i++) {
            Check.suits(script, sets[i], rights[i]);
        }
    }

    /** A dish that is told ahead hides a tag of its name; one that is told later does not. */
    private static void namesOfDishesAndTags() {
        MenuScript script = Check.compiled("food a 1 is d;food b 1;dish c for 1:1 a;meal m:d,not d;rule apart 1 d;"
            + "dish d for 1:1 b;meal n:d,not d;rule apart 1 d;dish e for 1:1 a;rule most 1 c in 1;");
        int[] choices = {5, 2, 2, 5};
        for (int choice = 0; choice < 4; choice++) {
            Check.sameLong("choice(" + choice + ", false)", script.choice(choice, false), choices[choice]);
        }
        int[] rules = {5, 2, 1};
        for (int rule = 0; rule < 3; rule++) {
            Check.sameLong("rule(" + rule + ", 3)", script.rule(rule, 3), rules[rule]);
        }
        Check.suits(script, 2, "d");
        Check.suits(script, 6, "d or e");
    }

    private static void rules() {
        MenuScript script = Check.compiled("food a 1 is t;dish d for 1:1 a;meal m:d;rule apart 3 t;rule most 0 t in 14;"
            + "rule least 9 d in 5;rule energy 1 to 9999;rule apart 9 d;dish e for 1:1 a is u;rule least 2 u in 1;");
        int[][] due = {{0, 3, 0, 3}, {1, 0, 14, 3}, {2, 9, 5, 1}, {3, 1, 9999, 0}, {0, 9, 0, 1}, {2, 2, 1, 2}};
        for (int rule = 0; rule < 6; rule++) {
            for (int what = 0; what < 4; what++) {
                Check.sameLong("rule(" + rule + ", " + what + ")", script.rule(rule, what), due[rule][what]);
            }
        }
        Check.isThrown("rule(-1, 0)", Check.OUT_OF_BOUNDS, () -> script.rule(-1, 0));
        Check.isThrown("rule(6, 0)", Check.OUT_OF_BOUNDS, () -> script.rule(6, 0));
        Check.isThrown("rule(0, -1)", Check.OUT_OF_BOUNDS, () -> script.rule(0, -1));
        Check.isThrown("rule(0, 4)", Check.OUT_OF_BOUNDS, () -> script.rule(0, 4));
        // What the rules ahead told must not be left over.
        Check.write(script, "food a 1 is t;dish d for 1:1 a;meal m:d;rule energy 1 to 2;rule apart 4 t;rule energy 0 to 0;");
        Check.sameLong("compile() once more", script.compile(), 0);
        int[][] next = {{3, 1, 2, 0}, {0, 4, 0, 1}, {3, 0, 0, 0}};
        for (int rule = 0; rule < 3; rule++) {
            for (int what = 0; what < 4; what++) {
                Check.sameLong("next rule(" + rule + ", " + what + ")", script.rule(rule, what), next[rule][what]);
            }
        }
        Check.isThrown("next rule(3, 0)", Check.OUT_OF_BOUNDS, () -> script.rule(3, 0));
    }

    private static void suitedSets() {
        String program = "food a 1 is t;dish d for 1:1 a;dish e for 1:1 a is u;meal m:d;";
        MenuScript script = Check.compiled(program);
        Check.sameLong("suited() ahead of test()", script.suited(), 0);
        Check.suits(script, 3, "t");
        Check.suits(script, 2, "u");
        Check.sameLong("suited() stays", script.suited(), 2);
        Check.testError(script, 1, "u^;");
        Check.suits(script, 2, "u");
        Check.testError(script, 2, "u or ^v");
        Check.suits(script, 1, "t and not u");
        Check.write(script, program);
        Check.sameLong("suited() with a tape", script.suited(), 1);
        Check.sameLong("compile()", script.compile(), 0);
        Check.sameLong("suited() behind compile()", script.suited(), 0);
        script.plan(2);
        Check.suits(script, 1, "d");
        Check.sameLong("test() leaves the menu", script.count(6), 2);
        Check.sameLong("test() leaves the program", script.count(1), 2);
    }

    private static void setsOfSixteen() {
        MenuScript script = Check.compiled("food a 1 is " + Check.series(16, "z@", ",") + ";food b 2;"
            + Check.series(16, "dish x@ for 1:1 b;", "").replace("xp for 1:1 b", "xp for 1:1 a") + "meal m:not xa,zp;");
        Check.sameLong("food(0, 2)", script.food(0, 2), 65535);
        Check.sameLong("dish(15, 3)", script.dish(15, 3), 65535);
        Check.sameLong("choice(0, false)", script.choice(0, false), 65534);
        Check.sameLong("choice(1, false)", script.choice(1, false), 32768);
        Check.suits(script, 65535, "xa or not xa");
        Check.suits(script, 32767, "not zb");
        Check.suits(script, 32768, "xp");
    }
}
