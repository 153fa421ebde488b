/** Promises 4, 5 and 7 as far as they tell of the form: tokens, grammar, depth, and the length of a choice. */
public final class FormTest {
    private static final String FOOD = "food a 1;";
    private static final String START = "food a 1;dish d for 1:1 a is t;";
    private static final String MEAL = "meal m:d;";

    public static void main(String[] args) {
        tokens();
        keywordsAreNoNames();
        wrongTokenAnywhere();
        endAnywhere();
        dishesAndTags();
        depth();
        greatestDepth();
        lengthOfChoice();
        choicesOfTest();
        Check.end("FormTest");
    }

    private static void tokens() {
        Check.compileError(1, "^");
        Check.compileError(1, "  \n ^");
        Check.compiled("food a1;dish d for1:1a;meal m:d;");
        Check.compiled("\n food\na\n1 ; dish d for 1 : 1\n a ;meal m:(d)or(not(d))and d; \n");
        Check.compiled("food abcdefghij 0001;dish zyxwvutsrq for 0020:2000abcdefghij;meal m:zyxwvutsrq;");
        Check.compileError(1, "food ^abcdefghijk 1;");
        Check.compileError(1, "food a ^00001;");
        Check.compileError(1, "food a 1 ^12345");
        Check.compileError(1, "food a 1;dish d for 1:1 a is t,^abcdefghijkl;");
        Check.compileError(1, "^foods a 1;");
        Check.compileError(1, "^fooda 1;");
        Check.compileError(2, "food a 1price 2;dish d for 1:1 a;meal m:d and(d)or ^dand;");
        Check.compileError(2, "food a 1;dish d for 1:1 ^ofa;");
        Check.compileError(1, "food a 1;dish d for 1:1 a ^iss;");
        Check.compileError(1, "food ^A 1;");
        Check.compileError(1, "food a^\t1;");
        Check.compileError(1, "food a^\r1;");
        Check.compileError(1, "food a ^-1;");
        Check.compileError(1, "food a 1^.5;");
        Check.compileError(1, "food a 1;^\0");
        Check.compileError(1, "food a 1;^" + (char) 255);
        Check.compileError(1, "food ^" + (char) 160 + "a 1;");
        Check.compileError(1, "food ^`a 1;");
        Check.compileError(1, "food ^{a 1;");
        Check.compileError(1, "food a ^/1;");
        Check.compileError(1, "food a 1^<;");
        Check.compileError(1, "food a 1^" + (char) 11 + ";");
        Check.compileError(1, "food a 1^!;");
        for (int sign = 0; sign < 256; sign++) {
            boolean isBlank = sign == 32 || sign == 10;
            if (sign != ';' && sign != '^' && !isBlank) {
                Check.compileError(1, START + MEAL + "food b 1 ^" + (char) sign + ";");
            }
        }
        for (char letter = 'a'; letter <= 'z'; letter++) {
            Check.compiled("food " + letter + " 1;dish dd for 1:1 " + letter + ";meal mm:dd;");
        }
        MenuScript script = Check.compiled("food a 0000;food b 0900;food c 123;food dd 456;food e 789;"
            + "dish d for 1:1 a;meal m:d;");
        int[] energies = {0, 900, 123, 456, 789};
        for (int food = 0; food < energies.length; food++) {
            Check.sameLong("the energy of food " + food, script.food(food, 0), energies[food]);
        }
    }

    private static void keywordsAreNoNames() {
        String[] keywords = ("food dish for is of meal rule apart most least in energy to and or not price").split(" ");
        for (String keyword : keywords) {
            Check.compileError(1, "food ^" + keyword + " 1;");
            Check.compileError(1, FOOD + "dish ^" + keyword + " for 1:1 a;");
            Check.compileError(1, START + "meal ^" + keyword + ":d;");
            Check.compileError(1, START + MEAL + "food b 1 is ^" + keyword + ";");
            Check.compileError(1, START + MEAL + "rule apart 1 ^" + keyword + ";");
            String longer = keyword + "s";
            Check.compiled("food " + longer + " 1;dish d for 1:1 " + longer + ";" + MEAL);
            String shorter = keyword.substring(0, keyword.length() - 1);
            Check.compiled("food " + shorter + " 1;dish dd for 1:1 " + shorter + ";meal mm:dd;");
        }
    }

    /** A token that can nowhere stand is put ahead of each token of a program, and behind the last. */
    private static void wrongTokenAnywhere() {
        String[] tokens = ("food a 1 price 2 is t , u ; dish d for 1 : 1 a , 2 a is v , t ; dish e for 2 : 1 of d ; "
            + "meal m : d , ( t or not e ) and not not u ; rule apart 3 t ; rule most 2 d in 3 ; "
            + "rule least 1 v in 2 ; rule energy 0 to 10 ;").split(" ");
        StringBuilder ahead = new StringBuilder();
        for (String token : tokens) {
            Check.compileError(1, ahead + "^#" + token);
            Check.compileError(1, ahead + "^ABC " + token);
            ahead.append(token).append(' ');
        }
        Check.compileError(1, ahead + "^#");
        Check.compiled(ahead.toString());
    }

    private static void endAnywhere() {
        Check.compileError(1, "food a 1^");
        Check.compileError(1, "food a 1  ^");
        Check.compileError(1, START + MEAL + "rule^");
        Check.compileError(1, START + MEAL + "rule ^;");
        Check.compileError(1, START + MEAL + "rule ^food");
        Check.compileError(1, START + "meal m:d,^");
        Check.compileError(1, START + "meal m:not ^");
        Check.compileError(1, START + "meal m:(d^");
        Check.compileError(1, START + MEAL + "^;");
        Check.compileError(1, START + MEAL + "^a");
        Check.compileError(1, START + MEAL + "^1");
        Check.compileError(1, "^is a 1;");
        Check.compileError(1, "^;");
    }

    private static void dishesAndTags() {
        Check.compileError(1, FOOD + "dish d ^1:1 a;");
        Check.compileError(1, FOOD + "dish d for ^:1 a;");
        Check.compileError(1, FOOD + "dish d for 1 ^1 a;");
        Check.compileError(1, FOOD + "dish d for 1:^a;");
        Check.compileError(1, FOOD + "dish d for 1:^;");
        Check.compileError(1, FOOD + "dish d for 1:1 of ^of d;");
        Check.compileError(1, FOOD + "dish d for 1:1 ^1;");
        Check.compileError(1, FOOD + "dish d for 1:1 a,^is t;");
        Check.compileError(1, FOOD + "dish d for 1:1 a ^1 a;");
        Check.compileError(1, FOOD + "dish d for 1:1 a is ^;");
        Check.compileError(1, FOOD + "dish d for 1:1 a is t ^u;");
        Check.compileError(1, FOOD + "dish d for 1:1 a is t,^;");
        Check.compileError(1, FOOD + "dish d for 1:1 a is t,^1;");
        Check.compileError(1, FOOD + "dish d for 1:1 a is t ^is u;");
        Check.compileError(1, "food a 1 is t ^price 2;");
        Check.compileError(1, "food a 1 price 2 ^price 3;");
        Check.compileError(1, "food a ^price 3;");
        Check.compileError(1, "food a 1 price ^is t;");
        Check.compileError(1, START + "meal m ^d;");
        Check.compileError(1, START + "meal m:^,d;");
        Check.compileError(1, START + "meal m:^;");
        Check.compileError(1, START + "meal m:^1 d;");
        Check.compileError(1, START + "meal m:d ^d;");
        Check.compileError(1, START + "meal m:d ^not d;");
        Check.compileError(1, START + "meal m:d^);");
        Check.compileError(1, START + "meal m:(d)^);");
        Check.compileError(1, START + "meal m:(^);");
        Check.compileError(1, START + "meal m:(d^,d);");
        Check.compileError(1, START + "meal m:^and d;");
        Check.compileError(1, START + "meal m:d and ^or d;");
        Check.compileError(1, START + "meal m:d or ^and d;");
        Check.compileError(1, START + "meal m:d ^(d);");
        Check.compileError(1, START + "meal m:(d)^(d);");
        Check.compileError(1, START + "meal m:d ^is t;");
        Check.compileError(1, START + MEAL + "rule apart ^t;");
        Check.compileError(1, START + MEAL + "rule apart 1 t ^in 2;");
        Check.compileError(1, START + MEAL + "rule most 1 t^;");
        Check.compileError(1, START + MEAL + "rule most 1 t in ^t;");
        Check.compileError(1, START + MEAL + "rule least 1 t ^to 2;");
        Check.compileError(1, START + MEAL + "rule energy 1 ^in 2;");
        Check.compileError(1, START + MEAL + "rule energy 1 to ^t;");
        Check.compileError(1, START + MEAL + "rule energy ^t;");
        Check.compileError(1, "food nosuch 9999 price 9999;dish nosuch for 0:0 x;rule apart 0 x;meal m:x ^x;");
    }

    private static void depth() {
        Check.compiled(START + "meal m:" + Check.repeat(8, "(", "") + "d" + Check.repeat(8, ")", "") + ";");
        Check.compileError(1, START + "meal m:" + Check.repeat(8, "(", "") + "^(d" + Check.repeat(9, ")", "") + ";");
        Check.compiled(START + "meal m:" + Check.repeat(8, "not ", "") + "d;");
        Check.compileError(1, START + "meal m:" + Check.repeat(8, "not ", "") + "^not d;");
        Check.compileError(1, START + "meal m:" + Check.repeat(8, "not ", "") + "^(d);");
        Check.compileError(1, START + "meal m:" + Check.repeat(4, "not(", "") + "^not d))));");
        Check.compiled(START + "meal m:" + Check.repeat(4, "not(", "") + "d)))) and not not(d);");
        Check.compiled(START + "meal m:not not not(not not(not d and d)and not not not d)and not(d);");
        Check.compileError(1, START + "meal m:not not not(not not(not d and d)and not not not not ^not d)and not(d);");
        Check.compiled(START + "meal m:not not not(not not(not d and d)and not not not not d)and not(d);");
        Check.compiled(START + "meal m:" + Check.repeat(8, "(", "") + "d" + Check.repeat(8, ")", "") + ","
            + Check.repeat(8, "not ", "") + "d;");
    }

    /** Where nothing but a name may stand any more. */
    private static void greatestDepth() {
        String[] others = {";", ",d;", ")", "and d;", "or d;", "1;", "food b 1;", "is t;", ":d;"};
        for (String other : others) {
            Check.compileError(1, START + "meal m:" + Check.repeat(8, "not ", "") + "^" + other);
            Check.compileError(1, START + "meal m:" + Check.repeat(8, "(", "") + "^" + other);
            Check.compileError(1, START + "meal m:" + Check.repeat(8, "(", "") + "d and ^" + other);
            Check.compileError(1, START + "meal m:" + Check.repeat(7, "(", "") + "^" + other);
        }
        Check.compileError(1, START + "meal m:" + Check.repeat(8, "(", "") + "^" + Check.repeat(8, ")", "") + ";");
        MenuScript script = Check.compiled(START + MEAL);
        Check.testError(script, 1, Check.repeat(8, "not ", "") + "^");
        Check.testError(script, 1, Check.repeat(8, "(", "") + "^" + Check.repeat(8, ")", ""));
    }

    private static void lengthOfChoice() {
        String thirty = "not " + Check.repeat(15, "d", " and ");
        Check.compiled(START + "meal m:" + thirty + ";");
        Check.compiled(START + "meal m:" + thirty + "," + thirty + ",d;meal n:" + thirty + ";");
        Check.compileError(1, START + "meal m:" + thirty + " ^and d;");
        Check.compileError(1, START + "meal m:" + thirty + " ^or d;");
        Check.compileError(1, START + "meal m:" + Check.repeat(15, "d", " or ") + " or ^d;");
        Check.compileError(1, START + "meal m:" + Check.repeat(14, "d", " or ") + " or not not ^d;");
        Check.compileError(1, START + "meal m:" + Check.repeat(14, "d", " or ") + " or (not ^d;");
        Check.compileError(1, START + "meal m:" + Check.repeat(14, "d", " or ") + " or (d^);");
        Check.compileError(1, START + "meal m:" + Check.repeat(14, "d", " or ") + " or not (^d);");
        Check.compileError(1, START + "meal m:" + Check.repeat(14, "d", " or ") + " or not not ^not;");
        Check.compiled(START + "meal m:" + Check.repeat(13, "d", " or ") + " or not (d);");
        Check.compileError(1, START + "meal m:" + Check.repeat(13, "d", " or ") + " or not not (d^);");
        Check.compileError(1, START + "meal m:" + Check.repeat(13, "d", " or ") + " or not not not (^d);");
    }

    private static void choicesOfTest() {
        MenuScript script = Check.compiled(START + MEAL);
        Check.testError(script, 1, "^");
        Check.testError(script, 1, "   ^");
        Check.testError(script, 1, "d and^");
        Check.testError(script, 1, "d and ^");
        Check.testError(script, 1, "d ^d");
        Check.testError(script, 1, "d^;");
        Check.testError(script, 1, "d^,d");
        Check.testError(script, 1, "d^)");
        Check.testError(script, 1, "d^?");
        Check.testError(script, 1, "nosuch^)");
        Check.testError(script, 1, "^food a 1;");
        Check.testError(script, 1, "^abcdefghijk");
        Check.testError(script, 1, Check.repeat(8, "not ", "") + "^not d");
        Check.testError(script, 1, "not " + Check.repeat(15, "d", " and ") + " ^and d");
        Check.suits(script, 1, Check.repeat(8, "not ", "") + "d");
        Check.suits(script, 0, "not " + Check.repeat(15, "d", " and "));
        Check.suits(script, 1, " \n(d)\n");
        Check.suits(script, 1, Check.repeat(8, "(", "") + "d" + Check.repeat(8, ")", ""));
    }
}
