import java.util.ArrayList;
import java.util.List;

/** "A method that throws an exception changes nothing", and "the one that is named first", for each refused call. */
public final class RefusedTest {
    /** One of the calls that are refused, on the object that it is told. */
    private interface Refused {
        double on(MenuScript script);
    }

    private static final String PROGRAM = "food a 100 price 7 is t;food b 50;food c 9 price 999;dish d for 2:300 a,50 b;"
        + "dish e for 3:1 of d,100 c is u;meal m:t,u or not u;meal n:d;rule apart 2 d;rule least 2 u in 2;"
        + "rule energy 100 to 300;";
    private static final String NEXT = "food z 5;dish y for 1:100 z is x;meal w:x;";
    private static final int[] EXTREMES = {Integer.MIN_VALUE, Integer.MIN_VALUE + 1, -65536, -33, -32, -16, -2, -1, 0, 1, 2,
        3, 4, 5, 6, 7, 8, 9, 13, 14, 15, 16, 17, 31, 32, 33, 63, 64, 65, 256, 65536, Integer.MAX_VALUE - 1,
        Integer.MAX_VALUE};
    private static final String[] STATES = {"new", "fed", "wrong", "told", "planned", "full"};

    public static void main(String[] args) {
        for (String state : STATES) {
            tape(state);
            whats(state);
            foods(state);
            dishes(state);
            choicesAndRules(state);
            places(state);
            days(state);
            plans(state);
        }
        unsuitingDishes();
        twoExceptionsAtOnce();
        Check.end("RefusedTest");
    }

    private static MenuScript made(String state) {
        MenuScript script = new MenuScript();
        if (state.equals("new")) {
            return script;
        }
        if (state.equals("wrong")) {
            Check.write(script, "food a 901;");
            Check.sameLong("compile() of a wrong program", script.compile(), 5);
        }
        if (state.equals("told") || state.equals("planned") || state.equals("full")) {
            Check.write(script, PROGRAM);
            Check.sameLong("compile()", script.compile(), 0);
            Check.suits(script, 2, "u");
        }
        if (state.equals("planned") || state.equals("full")) {
            script.plan(state.equals("full") ? 14 : 4);
            script.set(2, 1, -1);
            script.set(1, 0, 1);
        }
        Check.write(script, state.equals("full") ? NEXT + Check.repeat(1500 - NEXT.length(), " ", "") : NEXT);
        return script;
    }

    /** What an object tells, down to its tape, which is compiled at last. */
    private static String told(MenuScript script) {
        List<Object> all = new ArrayList<>();
        all.add(script.digest());
        all.add(script.errorAt());
        all.add(script.suited());
        all.add(script.meanPrice());
        for (int day = 0; day < script.count(6); day++) {
            all.add(script.day(day, true) + "/" + script.day(day, false));
        }
        for (int rule = 0; rule < script.count(4); rule++) {
            all.add(script.faultsOf(rule));
        }
        for (int food = 0; food < script.count(0); food++) {
            all.add(script.buy(food, 5));
            for (int dish = 0; dish < script.count(1); dish++) {
                all.add(script.grams(dish, food) + "/" + script.times(dish));
            }
        }
        all.add(script.compile());
        all.add(script.errorAt());
        all.add(script.digest());
        return all.toString();
    }

    private static void refuse(String state, String what, String exception, Refused call) {
        MenuScript script = made(state);
        String name = what + " of a " + state + " object";
        Check.isThrown(name, exception, () -> call.on(script));
        Check.isThrown(name + " again", exception, () -> call.on(script));
        Check.sameText("what is told behind " + name, told(script), told(made(state)));
    }

    /** The extreme numbers, without those of a range. */
    private static List<Integer> outside(int least, int most) {
        List<Integer> all = new ArrayList<>();
        for (int number : EXTREMES) {
            if (number < least || number > most) {
                all.add(number);
            }
        }
        return all;
    }

    private static void tape(String state) {
        int length = made(state).count(7);
        for (int n : outside(0, 0)) {
            if (n < 0 || n > length) {
                refuse(state, "trim(" + n + ")", Check.BAD_ARGUMENT, script -> script.trim(n));
            }
        }
        refuse(state, "trim of one more", Check.BAD_ARGUMENT, script -> script.trim(length + 1));
        if (length == 1500) {
            refuse(state, "feed", Check.BAD_STATE, script -> script.feed(0x20202020, 1, 2, 3, 4));
        }
    }

    private static void whats(String state) {
        for (int what : outside(0, 7)) {
            refuse(state, "count(" + what + ")", Check.OUT_OF_BOUNDS, script -> script.count(what));
        }
        for (int what : outside(0, 2)) {
            refuse(state, "food(0, " + what + ")", Check.OUT_OF_BOUNDS, script -> script.food(0, what));
        }
        for (int what : outside(0, 4)) {
            refuse(state, "dish(0, " + what + ")", Check.OUT_OF_BOUNDS, script -> script.dish(0, what));
        }
        for (int what : outside(0, 3)) {
            refuse(state, "rule(0, " + what + ")", Check.OUT_OF_BOUNDS, script -> script.rule(0, what));
        }
    }

    private static void foods(String state) {
        for (int food : outside(0, made(state).count(0) - 1)) {
            refuse(state, "food(" + food + ", 0)", Check.OUT_OF_BOUNDS, script -> script.food(food, 0));
            refuse(state, "grams(0, " + food + ")", Check.OUT_OF_BOUNDS, script -> script.grams(0, food));
            refuse(state, "buy(" + food + ", 1)", Check.OUT_OF_BOUNDS, script -> script.buy(food, 1));
        }
        if (made(state).count(0) > 0) {
            for (int people : outside(1, 1000)) {
                refuse(state, "buy(0, " + people + ")", Check.BAD_ARGUMENT, script -> script.buy(0, people));
            }
            refuse(state, "buy(0, 1001)", Check.BAD_ARGUMENT, script -> script.buy(0, 1001));
        }
    }

    private static void dishes(String state) {
        for (int dish : outside(0, made(state).count(1) - 1)) {
            refuse(state, "dish(" + dish + ", 0)", Check.OUT_OF_BOUNDS, script -> script.dish(dish, 0));
            refuse(state, "grams(" + dish + ", 0)", Check.OUT_OF_BOUNDS, script -> script.grams(dish, 0));
            refuse(state, "times(" + dish + ")", Check.OUT_OF_BOUNDS, script -> script.times(dish));
            if (dish != -1) {
                refuse(state, "set(0, 0, " + dish + ")", Check.OUT_OF_BOUNDS, script -> script.set(0, 0, dish));
            }
        }
    }

    private static void choicesAndRules(String state) {
        for (int choice : outside(0, made(state).count(3) - 1)) {
            refuse(state, "choice(" + choice + ", true)", Check.OUT_OF_BOUNDS, script -> script.choice(choice, true));
            refuse(state, "choice(" + choice + ", false)", Check.OUT_OF_BOUNDS, script -> script.choice(choice, false));
        }
        for (int rule : outside(0, made(state).count(4) - 1)) {
            refuse(state, "rule(" + rule + ", 0)", Check.OUT_OF_BOUNDS, script -> script.rule(rule, 0));
            refuse(state, "faultsOf(" + rule + ")", Check.OUT_OF_BOUNDS, script -> script.faultsOf(rule));
        }
    }

    private static void places(String state) {
        for (int choice : outside(0, made(state).count(3) - 1)) {
            refuse(state, "at(0, " + choice + ")", Check.OUT_OF_BOUNDS, script -> script.at(0, choice));
            refuse(state, "set(0, " + choice + ", 0)", Check.OUT_OF_BOUNDS, script -> script.set(0, choice, 0));
            refuse(state, "set(0, " + choice + ", -1)", Check.OUT_OF_BOUNDS, script -> script.set(0, choice, -1));
        }
    }

    private static void days(String state) {
        for (int day : outside(0, made(state).count(6) - 1)) {
            refuse(state, "at(" + day + ", 0)", Check.OUT_OF_BOUNDS, script -> script.at(day, 0));
            refuse(state, "set(" + day + ", 0, 0)", Check.OUT_OF_BOUNDS, script -> script.set(day, 0, 0));
            refuse(state, "set(" + day + ", 0, -1)", Check.OUT_OF_BOUNDS, script -> script.set(day, 0, -1));
            refuse(state, "exchange(" + day + ", 0)", Check.OUT_OF_BOUNDS, script -> script.exchange(day, 0));
            refuse(state, "exchange(0, " + day + ")", Check.OUT_OF_BOUNDS, script -> script.exchange(0, day));
            refuse(state, "exchange of " + day + " twice", Check.OUT_OF_BOUNDS, script -> script.exchange(day, day));
            refuse(state, "day(" + day + ", true)", Check.OUT_OF_BOUNDS, script -> script.day(day, true));
            refuse(state, "day(" + day + ", false)", Check.OUT_OF_BOUNDS, script -> script.day(day, false));
        }
        for (int day = 0; day < made(state).count(6); day++) {
            int same = day;
            refuse(state, "exchange of " + same + " twice", Check.BAD_ARGUMENT, script -> script.exchange(same, same));
        }
    }

    private static void plans(String state) {
        for (int days : outside(1, 14)) {
            refuse(state, "plan(" + days + ")", Check.BAD_ARGUMENT, script -> script.plan(days));
        }
        if (made(state).count(1) == 0) {
            refuse(state, "plan(1)", Check.BAD_STATE, script -> script.plan(1));
            refuse(state, "plan(14)", Check.BAD_STATE, script -> script.plan(14));
        }
    }

    private static void unsuitingDishes() {
        // Choice 0 suits t (both dishes), choice 1 all of them, choice 2 dish 0 alone.
        for (int day = 0; day < 4; day++) {
            int onDay = day;
            refuse("planned", "set of a dish that does not suit", Check.BAD_STATE, script -> script.set(onDay, 2, 1));
        }
        MenuScript script = made("planned");
        Check.sameLong("set of a dish that suits", script.set(0, 2, 0), -1);
        Check.sameLong("set of a dish that suits, again", script.set(0, 2, 0), 0);
    }

    private static void twoExceptionsAtOnce() {
        refuse("new", "plan(0) without a program", Check.BAD_ARGUMENT, script -> script.plan(0));
        refuse("new", "plan(15) without a program", Check.BAD_ARGUMENT, script -> script.plan(15));
        refuse("planned", "exchange(4, 4)", Check.OUT_OF_BOUNDS, script -> script.exchange(4, 4));
        refuse("told", "exchange(0, 0) without days", Check.OUT_OF_BOUNDS, script -> script.exchange(0, 0));
        refuse("planned", "set(4, 2, 1)", Check.OUT_OF_BOUNDS, script -> script.set(4, 2, 1));
        refuse("told", "set(0, 2, 1) without days", Check.OUT_OF_BOUNDS, script -> script.set(0, 2, 1));
        refuse("planned", "set(0, 2, 2)", Check.OUT_OF_BOUNDS, script -> script.set(0, 2, 2));
        refuse("planned", "buy(3, 0)", Check.OUT_OF_BOUNDS, script -> script.buy(3, 0));
        refuse("planned", "buy(-1, 1001)", Check.OUT_OF_BOUNDS, script -> script.buy(-1, 1001));
        refuse("new", "buy(0, 0)", Check.OUT_OF_BOUNDS, script -> script.buy(0, 0));
    }
}
