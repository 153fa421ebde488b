import java.util.ArrayList;
import java.util.List;

/** All promises: long runs of calls on the class and on the model, whose answers must be the same. */
public final class ModelTest {
    private static final int RUNS = 1500;
    /** Where full programs without an error are counted, behind the errors 0 to 6. */
    private static final int FULL = 7;
    private static final String[] KEYWORDS = ("food dish for is of meal rule apart most least in energy to and or not "
        + "price").split(" ");

    private final MenuScript script = new MenuScript();
    private final Model model = new Model();
    private final int run;
    private final StringBuilder calls = new StringBuilder();
    private int left = 512;
    private long seed;
    private List<String> tags;
    private List<String> dishes;
    private boolean isWild;
    /** A program with as much as can be told, for the model's slowness in few runs alone. */
    private boolean isFull;

    private ModelTest(int run) {
        this.run = run;
        this.seed = run * 7919L + 17;
    }

    public static void main(String[] args) {
        int right = 0;
        int[] errors = new int[FULL + 1];
        for (int run = 0; run < RUNS; run++) {
            new ModelTest(run).calls(errors);
        }
        for (int error = 0; error <= 6; error++) {
            // A generator that never comes to an error, or never to a program, would test nothing.
            Check.sameLong("programs with error " + error, errors[error] > 20 ? 1 : 0, 1);
            right += errors[error];
        }
        Check.sameLong("full programs without an error", errors[FULL] > 100 ? 1 : 0, 1);
        System.out.println("ModelTest: " + right + " programs, " + errors[0] + " of them right");
        Check.end("ModelTest");
    }

    private void calls(int[] errors) {
        while (left > 80) {
            isWild = chance(30);
            isFull = !isWild && run % 10 == 0;
            String program = program();
            if (chance(isFull ? 3 : 20)) {
                program = spoiled(program);
            }
            if (program.length() > 1500) {
                program = program.substring(0, 1500);
            }
            write(program);
            long error = same("compile()", () -> script.compile(), () -> model.compile());
            errors[(int) error]++;
            errors[FULL] += isFull && error == 0 ? 1 : 0;
            same("errorAt()", () -> script.errorAt(), () -> model.errorAt());
            sameDigest();
            lookAtFacts();
            int steps = model.count(1) == 0 ? 3 : isFull ? 150 : 10 + below(60);
            for (int step = 0; step < steps && left > 12; step++) {
                callOnce();
            }
            sameDigest();
        }
    }

    private void lookAtFacts() {
        for (int i = 0; i < 4 && left > 90; i++) {
            int a = below(17) - 1;
            int b = below(17) - 1;
            same("grams", () -> script.grams(a, b), () -> model.grams(a, b));
            int what = below(6) - 1;
            same("food", () -> script.food(a, what), () -> model.food(a, what));
            same("dish", () -> script.dish(a, what), () -> model.dish(a, what));
            same("rule", () -> script.rule(a / 2, what), () -> model.rule(a / 2, what));
            same("choice", () -> script.choice(a / 2, b < 8), () -> model.choice(a / 2, b < 8));
            same("count", () -> script.count(a), () -> model.count(a));
        }
    }

    private void callOnce() {
        int days = model.count(6);
        int a = within(days);
        int b = within(days);
        int choice = within(model.count(3));
        int dish = chance(85) ? within(model.count(1)) : -1;
        int food = within(model.count(0));
        int rule = within(model.count(4));
        int people = chance(90) ? 1 + below(1000) : below(3) * 501 - 1;
        switch (below(14)) {
            case 0:
                int planned = chance(95) ? 1 + below(14) : below(18) - 1;
                if (days == 0 || chance(30)) {
                    same("plan(" + planned + ")", () -> script.plan(planned), () -> model.plan(planned));
                }
                break;
            case 1: case 2: case 3:
                same("set(" + a + ", " + choice + ", " + dish + ")", () -> script.set(a, choice, dish),
                    () -> model.set(a, choice, dish));
                break;
            case 4:
                if (chance(isFull ? 10 : 40)) {
                    same("improve()", () -> script.improve(), () -> model.improve());
                }
                break;
            case 5: same("exchange(" + a + ", " + b + ")", () -> script.exchange(a, b), () -> model.exchange(a, b)); break;
            case 6: same("faults()", () -> script.faults(), () -> model.faults()); break;
            case 7: same("faultsOf(" + rule + ")", () -> script.faultsOf(rule), () -> model.faultsOf(rule)); break;
            case 8: same("day(" + a + ", " + (b > 3) + ")", () -> script.day(a, b > 3), () -> model.day(a, b > 3)); break;
            case 9: same("times(" + dish + ")", () -> script.times(dish), () -> model.times(dish)); break;
            case 10:
                same("buy(" + food + ", " + people + ")", () -> script.buy(food, people), () -> model.buy(food, people));
                break;
            case 11: same("meanPrice()", () -> script.meanPrice(), () -> model.meanPrice()); break;
            case 12: same("at(" + a + ", " + choice + ")", () -> script.at(a, choice), () -> model.at(a, choice)); break;
            default: testChoice(); break;
        }
    }

    private void testChoice() {
        String choice = expression(below(4));
        write(chance(30) ? spoiled(choice) : choice);
        same("test()", () -> script.test(), () -> model.test());
        same("errorAt()", () -> script.errorAt(), () -> model.errorAt());
        same("suited()", () -> script.suited(), () -> model.suited());
    }

    private void sameDigest() {
        left--;
        long due = model.digest();
        long got = script.digest();
        if (got != due) {
            Check.tellWrong("run " + run + ": digest() answered " + got + ", due is " + due + " behind " + calls);
        }
        Check.sameLong("digest()", got, due);
    }

    private long same(String call, Check.Call ofScript, Check.Call ofModel) {
        left--;
        calls.append(call).append(' ');
        String due = Check.outcome(ofModel);
        String got = Check.outcome(ofScript);
        if (!got.equals(due)) {
            Check.tellWrong("run " + run + ": " + call + " answered " + got + ", due is " + due + " behind " + calls);
        }
        Check.sameText(call, got, due);
        return due.startsWith("throws") ? -1 : (long) Double.parseDouble(due);
    }

    private void write(String text) {
        int before = model.count(7);
        calls.append('"').append(text).append("\" ");
        for (int start = 0; start < text.length(); start += 20) {
            int[] five = new int[5];
            for (int i = 0; i < 5; i++) {
                five[i] = Check.four(text, start + 4 * i);
            }
            same("feed", () -> script.feed(five[0], five[1], five[2], five[3], five[4]),
                () -> model.feed(five[0], five[1], five[2], five[3], five[4]));
        }
        int end = before + text.length();
        same("trim(" + end + ")", () -> script.trim(end), () -> model.trim(end));
    }

    private int below(int end) {
        seed = seed * 6364136223846793005L + 1442695040888963407L;
        return (int) ((seed >>> 33) % end);
    }

    private boolean chance(int percent) {
        return below(100) < percent;
    }

    /** Mostly a right index, now and then one beside. */
    private int within(int size) {
        return size > 0 && chance(95) ? below(size) : below(2) == 0 ? -1 : size;
    }

    private int number(int least, int most) {
        if (isWild && chance(2)) {
            return chance(50) ? Math.max(0, least - 1) : most + 1;
        }
        int span = chance(10) ? below(3) == 0 ? most - least : 0 : below(most - least + 1);
        return least + span;
    }

    private String one(List<String> names) {
        if (isWild && chance(2) || names.isEmpty()) {
            return "x" + (char) ('a' + below(4));
        }
        return names.get(below(names.size()));
    }

    private String program() {
        List<String> foods = new ArrayList<>();
        List<String> meals = new ArrayList<>();
        tags = new ArrayList<>();
        dishes = new ArrayList<>();
        StringBuilder text = new StringBuilder();
        int most = chance(5) ? 17 : 6;
        int foodCount = isFull ? 16 : 1 + below(most);
        for (int i = 0; i < foodCount; i++) {
            text.append("food ").append(told(foods, 'f')).append(blank()).append(number(0, 900));
            text.append(chance(isFull ? 20 : 60) ? " price " + number(0, 999) : "").append(tagsOf()).append(";");
        }
        int dishCount = isFull ? 16 : 1 + below(chance(5) ? 17 : 7);
        int mealCount = isFull ? 4 : 1 + below(isWild ? 5 : 3);
        int ruleCount = isFull ? 8 : below(isWild && chance(20) ? 12 : 6);
        for (int i = 0; i < dishCount + mealCount + ruleCount; i++) {
            boolean isMixed = !isFull && chance(10);
            int kind = i < dishCount ? 0 : i < dishCount + mealCount ? 1 : 2;
            switch (isMixed && !dishes.isEmpty() ? below(3) : kind) {
                case 0: text.append(dishItem(foods)); break;
                case 1: text.append(mealItem(meals)); break;
                default: text.append(ruleItem()); break;
            }
        }
        return text.toString();
    }

    private String told(List<String> names, char first) {
        String name = "" + first + (char) ('a' + names.size());
        if (isWild && chance(1)) {
            name = "fa";
        } else if (chance(10) && first == 'd') {
            name = "t" + (char) ('a' + below(5) + 10 * (dishes.size() % 2));
        }
        names.add(name);
        return name;
    }

    private String blank() {
        return chance(90) ? " " : chance(50) ? "\n" : "  ";
    }

    private String tagsOf() {
        StringBuilder text = new StringBuilder();
        int count = chance(60) ? 1 + below(2) : 0;
        for (int i = 0; i < count; i++) {
            String tag = "t" + (char) ('a' + below(isWild ? 18 : isFull ? 14 : 6));
            if (!tags.contains(tag)) {
                tags.add(tag);
            }
            text.append(i == 0 ? " is " : ",").append(tag);
        }
        return text.toString();
    }

    private String dishItem(List<String> foods) {
        StringBuilder parts = new StringBuilder();
        int count = 1 + below(isFull ? 2 : isWild && chance(10) ? 9 : 3);
        for (int i = 0; i < count; i++) {
            parts.append(i == 0 ? "" : ",");
            if (!dishes.isEmpty() && chance(30)) {
                parts.append(number(1, chance(isWild ? 10 : 1) ? 2000 : 5)).append(" of ").append(one(dishes));
            } else {
                parts.append(number(1, chance(50) ? 2000 : 200)).append(chance(50) ? " " : "").append(one(foods));
            }
        }
        String own = tagsOf();
        return "dish " + told(dishes, 'd') + " for " + number(1, 20) + ":" + parts + own + ";" + blank();
    }

    private String mealItem(List<String> meals) {
        StringBuilder text = new StringBuilder("meal ").append(told(meals, 'm')).append(':');
        int count = isFull ? 2 : 1 + below(isWild ? 4 : 3);
        for (int i = 0; i < count; i++) {
            text.append(i == 0 ? "" : ",").append(expression(below(isFull ? 2 : 4)));
        }
        return text.append(';').toString();
    }

    private String ruleItem() {
        String name = chance(50) ? one(tags) : one(dishes);
        switch (below(4)) {
            case 0: return "rule apart " + number(1, chance(70) ? 3 : 9) + " " + name + ";";
            case 1: return "rule most " + number(0, chance(70) ? 3 : 9) + name + " in " + number(1, chance(70) ? 4 : 14) + ";";
            case 2: return "rule least " + number(1, chance(70) ? 3 : 9) + name + " in " + number(1, chance(70) ? 4 : 14) + ";";
            default:
                int least = number(0, chance(70) ? 500 : 9999);
                return "rule energy " + least + " to " + number(Math.min(least, 9998), chance(70) ? least + 1500 : 9999) + ";";
        }
    }

    private String expression(int depth) {
        StringBuilder text = new StringBuilder();
        int count = 1 + below(depth > 2 ? 3 : 2);
        for (int i = 0; i < count; i++) {
            text.append(i == 0 ? "" : chance(50) ? " or " : " and ");
            boolean isNot = chance(25);
            text.append(isNot ? "not " : "");
            if (depth > 0 && chance(40)) {
                text.append('(').append(expression(depth - 1)).append(')');
            } else {
                text.append(chance(60) && !tags.isEmpty() ? one(tags) : one(dishes));
            }
        }
        return text.toString();
    }

    /** One byte or word of the text is changed, doubled, or left out. */
    private String spoiled(String text) {
        int position = below(text.length() + 1);
        String ahead = text.substring(0, position);
        String behind = text.substring(position);
        switch (below(6)) {
            case 0: return ahead + (char) below(256) + behind;
            case 1: return ahead;
            case 2: return ahead + " " + KEYWORDS[below(KEYWORDS.length)] + " " + behind;
            case 3: return ahead + ";:,() \n10az(".charAt(below(12)) + behind;
            case 4: return behind.isEmpty() ? ahead : ahead + behind.substring(1);
            default: return ahead + behind.replaceFirst("[a-z]+ ?|[0-9]+ ?|[;:,()]", "");
        }
    }
}
