import java.util.ArrayDeque;
import java.util.ArrayList;
import java.util.Arrays;
import java.util.LinkedHashMap;
import java.util.LinkedHashSet;
import java.util.List;
import java.util.Map;
import java.util.Set;
import java.util.TreeSet;

/** The document once more, in the slowest and plainest way, to compare the class with. */
final class Model {
    private static final Set<String> KEYWORDS = new TreeSet<>(Arrays.asList(("food dish for is of meal rule apart most "
        + "least in energy to and or not price").split(" ")));
    /** What a token can be followed by; a choice is looked at apart. */
    private static final String[] ROADS = {
        "item: food=foodName dish=dishName meal=mealName rule=sort",
        "foodName: name=foodNumber", "foodNumber: number=foodEnd", "foodEnd: price=price is=tag ;=next",
        "price: number=priceEnd", "priceEnd: is=tag ;=next", "tag: name=tagEnd", "tagEnd: ,=tag ;=next",
        "dishName: name=dishFor", "dishFor: for=servings", "servings: number=colon", "colon: :=part",
        "part: number=partOf", "partOf: of=partName name=partEnd", "partName: name=partEnd",
        "partEnd: ,=part is=tag ;=next", "mealName: name=mealColon", "mealColon: :=choice",
        "sort: apart=apart most=span least=span energy=low", "apart: number=apartName", "apartName: name=ruleEnd",
        "span: number=spanName", "spanName: name=spanIn", "spanIn: in=spanNumber", "spanNumber: number=ruleEnd",
        "low: number=lowTo", "lowTo: to=high", "high: number=ruleEnd", "ruleEnd: ;=next",
        "next: food=foodName dish=dishName meal=mealName rule=sort end=done",
    };

    private static final class Token {
        String kind;
        String text;
        int start;

        int number() {
            return Integer.parseInt(text);
        }
    }

    private static final class Food {
        String name;
        int energy;
        int price;
        Set<String> tags = new LinkedHashSet<>();
    }

    private static final class Dish {
        String name;
        int servings;
        int parts;
        long energy;
        long price;
        Map<Food, Long> grams = new LinkedHashMap<>();
        Set<String> tags = new LinkedHashSet<>();

        long energyOfOne() {
            return energy / servings;
        }

        long priceOfOne() {
            return price / servings;
        }
    }

    private static final class Choice {
        int meal;
        List<Token> tokens = new ArrayList<>();
        int dishesAhead;
        Set<Dish> suiting = new LinkedHashSet<>();
    }

    private static final class Rule {
        String sort;
        int first;
        int second;
        Token name;
        int dishesAhead;
        Set<Dish> meant = new LinkedHashSet<>();
    }

    private static final class Mistake extends Exception {
        private static final long serialVersionUID = 1L;
        final int error;
        final int position;

        Mistake(int error, int position) {
            this.error = error;
            this.position = position;
        }
    }

    private final Map<String, Map<String, String>> roads = new LinkedHashMap<>();
    private final StringBuilder tape = new StringBuilder();
    private List<Food> foods = new ArrayList<>();
    private List<Dish> dishes = new ArrayList<>();
    private List<String> meals = new ArrayList<>();
    private List<String> tags = new ArrayList<>();
    private List<Choice> choices = new ArrayList<>();
    private List<Rule> rules = new ArrayList<>();
    private Dish[][] menu = new Dish[0][0];
    private int errorPosition = -1;
    private int suitedSet = 0;

    Model() {
        for (String road : ROADS) {
            String[] words = road.split(" ");
            Map<String, String> ways = new LinkedHashMap<>();
            for (int i = 1; i < words.length; i++) {
                int sign = words[i].lastIndexOf('=');
                ways.put(words[i].substring(0, sign), words[i].substring(sign + 1));
            }
            roads.put(words[0].substring(0, words[0].length() - 1), ways);
        }
    }

    int feed(int a, int b, int c, int d, int e) {
        if (tape.length() + 20 > 1500) {
            throw new IllegalStateException();
        }
        for (int number : new int[] {a, b, c, d, e}) {
            tape.append((char) (number >>> 24)).append((char) (number >>> 16 & 255));
            tape.append((char) (number >>> 8 & 255)).append((char) (number & 255));
        }
        return tape.length();
    }

    int trim(int n) {
        if (n < 0 || n > tape.length()) {
            throw new IllegalArgumentException();
        }
        tape.setLength(n);
        return n;
    }

    int compile() {
        forget();
        suitedSet = 0;
        errorPosition = -1;
        try {
            List<Token> tokens = tokensOfTape();
            lookAtForm(tokens, "item");
            lookAtMeaning(tokens);
            for (Choice choice : choices) {
                choice.suiting = suitingDishes(choice);
            }
            for (Rule rule : rules) {
                if (rule.name != null) {
                    rule.meant = named(rule.name.text, rule.dishesAhead);
                }
            }
            return 0;
        } catch (Mistake mistake) {
            forget();
            errorPosition = mistake.position;
            return mistake.error;
        }
    }

    int errorAt() {
        return errorPosition;
    }

    int count(int what) {
        int[] all = {foods.size(), dishes.size(), meals.size(), choices.size(), rules.size(), tags.size(), menu.length,
            tape.length()};
        inside(what, all.length);
        return all[what];
    }

    int test() {
        suitedSet = 0;
        errorPosition = -1;
        try {
            List<Token> tokens = tokensOfTape();
            lookAtForm(tokens, "choice");
            Choice choice = new Choice();
            choice.tokens = tokens.subList(0, tokens.size() - 1);
            choice.dishesAhead = dishes.size();
            lookAtNames(choice);
            suitedSet = set(suitingDishes(choice));
            return 0;
        } catch (Mistake mistake) {
            errorPosition = mistake.position;
            return mistake.error;
        }
    }

    int suited() {
        return suitedSet;
    }

    int food(int food, int what) {
        inside(food, foods.size());
        inside(what, 3);
        Food one = foods.get(food);
        return new int[] {one.energy, one.price, tagSet(one.tags)}[what];
    }

    int dish(int dish, int what) {
        inside(dish, dishes.size());
        inside(what, 5);
        Dish one = dishes.get(dish);
        return new int[] {one.servings, (int) one.energyOfOne(), (int) one.priceOfOne(), tagSet(one.tags), one.parts}[what];
    }

    int grams(int dish, int food) {
        inside(dish, dishes.size());
        inside(food, foods.size());
        return (int) (long) dishes.get(dish).grams.getOrDefault(foods.get(food), 0L);
    }

    int choice(int choice, boolean isMeal) {
        inside(choice, choices.size());
        return isMeal ? choices.get(choice).meal : set(choices.get(choice).suiting);
    }

    int rule(int rule, int what) {
        inside(rule, rules.size());
        inside(what, 4);
        Rule one = rules.get(rule);
        int sort = Arrays.asList("apart", "most", "least", "energy").indexOf(one.sort);
        return new int[] {sort, one.first, one.second, set(one.meant)}[what];
    }

    int plan(int days) {
        if (days < 1 || days > 14) {
            throw new IllegalArgumentException();
        }
        if (dishes.isEmpty()) {
            throw new IllegalStateException();
        }
        menu = new Dish[days][choices.size()];
        for (int day = 0; day < days; day++) {
            for (int choice = 0; choice < choices.size(); choice++) {
                menu[day][choice] = planned(day, choice);
            }
        }
        return faults();
    }

    int at(int day, int choice) {
        inside(day, menu.length);
        inside(choice, choices.size());
        return dishes.indexOf(menu[day][choice]);
    }

    int set(int day, int choice, int dish) {
        inside(day, menu.length);
        inside(choice, choices.size());
        inside(dish + 1, dishes.size() + 1);
        if (dish >= 0 && !choices.get(choice).suiting.contains(dishes.get(dish))) {
            throw new IllegalStateException();
        }
        int before = at(day, choice);
        menu[day][choice] = dish < 0 ? null : dishes.get(dish);
        return before;
    }

    int faults() {
        int all = 0;
        for (Dish[] day : menu) {
            for (Dish dish : day) {
                all += dish == null ? 1 : 0;
            }
        }
        for (int rule = 0; rule < rules.size(); rule++) {
            all += faultsOf(rule);
        }
        return all;
    }

    int faultsOf(int rule) {
        inside(rule, rules.size());
        Rule one = rules.get(rule);
        switch (one.sort) {
            case "apart": return closePairs(one);
            case "most": return spans(one, Math.min(one.second, menu.length), true);
            case "least": return spans(one, one.second, false);
            default: return wrongDays(one);
        }
    }

    int improve() {
        int fewest = faults();
        int bestDay = -1;
        int bestChoice = -1;
        Dish bestDish = null;
        for (int day = 0; day < menu.length; day++) {
            for (int choice = 0; choice < choices.size(); choice++) {
                Dish before = menu[day][choice];
                for (Dish dish : dishes) {
                    if (choices.get(choice).suiting.contains(dish)) {
                        menu[day][choice] = dish;
                        if (faults() < fewest) {
                            fewest = faults();
                            bestDay = day;
                            bestChoice = choice;
                            bestDish = dish;
                        }
                    }
                }
                menu[day][choice] = before;
            }
        }
        if (bestDish != null) {
            menu[bestDay][bestChoice] = bestDish;
        }
        return faults();
    }

    int exchange(int a, int b) {
        inside(a, menu.length);
        inside(b, menu.length);
        if (a == b) {
            throw new IllegalArgumentException();
        }
        Dish[] dishesOfA = menu[a];
        menu[a] = menu[b];
        menu[b] = dishesOfA;
        return faults();
    }

    int day(int day, boolean isPrice) {
        inside(day, menu.length);
        long all = 0;
        for (Dish dish : menu[day]) {
            if (dish != null) {
                all += isPrice ? dish.priceOfOne() : dish.energyOfOne();
            }
        }
        return (int) all;
    }

    int times(int dish) {
        inside(dish, dishes.size());
        return timesOf(dishes.get(dish));
    }

    long buy(int food, int people) {
        inside(food, foods.size());
        if (people < 1 || people > 1000) {
            throw new IllegalArgumentException();
        }
        long all = 0;
        for (Dish[] day : menu) {
            for (Dish dish : day) {
                if (dish != null) {
                    all += people * dish.grams.getOrDefault(foods.get(food), 0L) / dish.servings;
                }
            }
        }
        return all;
    }

    double meanPrice() {
        double all = 0;
        double places = 0;
        for (Dish[] day : menu) {
            for (Dish dish : day) {
                if (dish != null) {
                    all += dish.priceOfOne();
                    places++;
                }
            }
        }
        return places == 0 ? 0 : all / places;
    }

    long digest() {
        List<Integer> numbers = new ArrayList<>();
        for (int what = 0; what < 8; what++) {
            numbers.add(count(what));
        }
        for (int i = 0; i < foods.size() * 3; i++) {
            numbers.add(food(i / 3, i % 3));
        }
        for (int i = 0; i < dishes.size() * 5; i++) {
            numbers.add(dish(i / 5, i % 5));
        }
        for (int i = 0; i < choices.size() * 2; i++) {
            numbers.add(choice(i / 2, i % 2 == 0));
        }
        for (int i = 0; i < rules.size() * 4; i++) {
            numbers.add(rule(i / 4, i % 4));
        }
        for (int i = 0; i < menu.length * choices.size(); i++) {
            numbers.add(at(i / choices.size(), i % choices.size()));
        }
        numbers.add(faults());
        long d = 359;
        for (int number : numbers) {
            d = d * 31 + number;
        }
        return d;
    }

    private static void inside(int index, int size) {
        if (index < 0 || index >= size) {
            throw new IndexOutOfBoundsException();
        }
    }

    private void forget() {
        foods = new ArrayList<>();
        dishes = new ArrayList<>();
        meals = new ArrayList<>();
        tags = new ArrayList<>();
        choices = new ArrayList<>();
        rules = new ArrayList<>();
        menu = new Dish[0][0];
    }

    /** Behind the first bad token no more are read; the last one is always bad or the end. */
    private List<Token> tokensOfTape() {
        String text = tape.toString();
        tape.setLength(0);
        List<Token> tokens = new ArrayList<>();
        int position = 0;
        while (true) {
            while (position < text.length() && (text.charAt(position) == ' ' || text.charAt(position) == '\n')) {
                position++;
            }
            Token token = new Token();
            token.start = position;
            String rest = text.substring(position);
            String word = rest.replaceFirst("(?s)^([a-z]*).*$", "$1");
            String number = rest.replaceFirst("(?s)^([0-9]*).*$", "$1");
            if (rest.isEmpty()) {
                token.kind = "end";
            } else if (!word.isEmpty()) {
                token.text = word;
                token.kind = word.length() > 10 ? "bad" : KEYWORDS.contains(word) ? word : "name";
            } else if (!number.isEmpty()) {
                token.text = number;
                token.kind = number.length() > 4 ? "bad" : "number";
            } else {
                token.text = rest.substring(0, 1);
                token.kind = ";:,()".contains(token.text) ? token.text : "bad";
            }
            tokens.add(token);
            if (token.kind.equals("bad") || token.kind.equals("end")) {
                return tokens;
            }
            position += token.text.length();
        }
    }

    private void lookAtForm(List<Token> tokens, String beginning) throws Mistake {
        String state = beginning;
        for (int i = 0; !state.equals("done"); i++) {
            if (state.equals("choice")) {
                i = behindChoice(tokens, i);
                state = beginning.equals("choice") ? "end" : "mealEnd";
            }
            Token token = tokens.get(i);
            if (state.equals("end") && token.kind.equals("end")) {
                return;
            }
            if (state.equals("mealEnd") && (token.kind.equals(",") || token.kind.equals(";"))) {
                state = token.kind.equals(",") ? "choice" : "next";
                continue;
            }
            Map<String, String> ways = roads.get(state);
            if (ways == null || !ways.containsKey(token.kind)) {
                throw new Mistake(1, token.start);
            }
            state = ways.get(token.kind);
        }
    }

    /** The depths of the open parentheses are on a stack; the top is the depth within the innermost. */
    private static int behindChoice(List<Token> tokens, int first) throws Mistake {
        ArrayDeque<Integer> open = new ArrayDeque<>();
        open.push(0);
        int depth = 0;
        boolean isNameDue = true;
        int i = first;
        while (true) {
            Token token = tokens.get(i);
            boolean isOfChoice;
            if (isNameDue) {
                isOfChoice = token.kind.equals("name")
                    || (token.kind.equals("(") || token.kind.equals("not")) && depth < 8;
            } else {
                isOfChoice = token.kind.equals("and") || token.kind.equals("or")
                    || token.kind.equals(")") && open.size() > 1;
                if (!isOfChoice && open.size() == 1) {
                    return i;
                }
            }
            if (!isOfChoice || i - first >= 30) {
                throw new Mistake(1, token.start);
            }
            switch (token.kind) {
                case "not": depth++; break;
                case "(": depth++; open.push(depth); break;
                case ")": open.pop(); break;
                case "name": isNameDue = false; break;
                default: isNameDue = true; depth = open.peek(); break;
            }
            i++;
        }
    }

    private void lookAtMeaning(List<Token> tokens) throws Mistake {
        int start = 0;
        for (int i = 0; i < tokens.size(); i++) {
            if (tokens.get(i).kind.equals(";")) {
                List<Token> item = tokens.subList(start, i);
                switch (item.get(0).kind) {
                    case "food": tellFood(item); break;
                    case "dish": tellDish(item); break;
                    case "meal": tellMeal(item); break;
                    default: tellRule(item); break;
                }
                start = i + 1;
            }
        }
        if (dishes.isEmpty() || meals.isEmpty()) {
            throw new Mistake(6, tokens.get(tokens.size() - 1).start);
        }
    }

    private static void mistakeIf(boolean isWrong, int error, Token token) throws Mistake {
        if (isWrong) {
            throw new Mistake(error, token.start);
        }
    }

    private static int number(Token token, int least, int most) throws Mistake {
        mistakeIf(token.number() < least || token.number() > most, 5, token);
        return token.number();
    }

    private String newName(Token token) throws Mistake {
        for (Food food : foods) {
            mistakeIf(food.name.equals(token.text), 3, token);
        }
        for (Dish dish : dishes) {
            mistakeIf(dish.name.equals(token.text), 3, token);
        }
        mistakeIf(meals.contains(token.text), 3, token);
        return token.text;
    }

    private void tellTags(List<Token> item, Set<String> own) throws Mistake {
        boolean isBehindIs = false;
        for (Token token : item) {
            if (isBehindIs && token.kind.equals("name")) {
                if (!tags.contains(token.text)) {
                    mistakeIf(tags.size() == 16, 4, token);
                    tags.add(token.text);
                }
                own.add(token.text);
            }
            isBehindIs |= token.kind.equals("is");
        }
    }

    private void tellFood(List<Token> item) throws Mistake {
        mistakeIf(foods.size() == 16, 4, item.get(0));
        Food food = new Food();
        food.name = newName(item.get(1));
        food.energy = number(item.get(2), 0, 900);
        if (item.size() > 3 && item.get(3).kind.equals("price")) {
            food.price = number(item.get(4), 0, 999);
        }
        tellTags(item, food.tags);
        foods.add(food);
    }

    private void tellDish(List<Token> item) throws Mistake {
        mistakeIf(dishes.size() == 16, 4, item.get(0));
        Dish dish = new Dish();
        dish.name = newName(item.get(1));
        dish.servings = number(item.get(3), 1, 20);
        int i = 4;
        while (i < item.size() && !item.get(i).kind.equals("is")) {
            i++;
            mistakeIf(dish.parts == 8, 4, item.get(i));
            dish.parts++;
            long number = number(item.get(i), 1, 2000);
            i++;
            if (item.get(i).kind.equals("of")) {
                i++;
                addPart(dish, number, dishNamed(item.get(i)));
            } else {
                addPart(dish, number, foodNamed(item.get(i)));
            }
            i++;
        }
        tellTags(item, dish.tags);
        long grams = 0;
        for (long ofFood : dish.grams.values()) {
            grams += ofFood;
        }
        mistakeIf(grams > 100000 || dish.energy > 1000000 || dish.price > 1000000, 5, item.get(1));
        dishes.add(dish);
    }

    private Dish dishNamed(Token name) throws Mistake {
        for (Dish dish : dishes) {
            if (dish.name.equals(name.text)) {
                return dish;
            }
        }
        throw new Mistake(2, name.start);
    }

    private Food foodNamed(Token name) throws Mistake {
        for (Food food : foods) {
            if (food.name.equals(name.text)) {
                return food;
            }
        }
        throw new Mistake(2, name.start);
    }

    private static void addPart(Dish dish, long number, Food food) {
        dish.energy += number * food.energy / 100;
        dish.price += number * food.price / 100;
        dish.grams.merge(food, number, Long::sum);
        dish.tags.addAll(food.tags);
    }

    private static void addPart(Dish dish, long number, Dish other) {
        dish.energy += number * other.energyOfOne();
        dish.price += number * other.priceOfOne();
        for (Map.Entry<Food, Long> part : other.grams.entrySet()) {
            dish.grams.merge(part.getKey(), number * part.getValue() / other.servings, Long::sum);
        }
        dish.tags.addAll(other.tags);
    }

    private void tellMeal(List<Token> item) throws Mistake {
        mistakeIf(meals.size() == 4, 4, item.get(0));
        String name = newName(item.get(1));
        Choice choice = null;
        for (int i = 2; i < item.size(); i++) {
            if (item.get(i).kind.equals(":") || item.get(i).kind.equals(",")) {
                finishChoice(choice);
                mistakeIf(choices.size() == 8, 4, item.get(i + 1));
                choice = new Choice();
                choice.meal = meals.size();
                choice.dishesAhead = dishes.size();
                choices.add(choice);
            } else {
                choice.tokens.add(item.get(i));
            }
        }
        finishChoice(choice);
        meals.add(name);
    }

    private void finishChoice(Choice choice) throws Mistake {
        if (choice != null) {
            lookAtNames(choice);
        }
    }

    private void lookAtNames(Choice choice) throws Mistake {
        for (Token token : choice.tokens) {
            if (token.kind.equals("name")) {
                lookAtName(token);
            }
        }
    }

    private void lookAtName(Token token) throws Mistake {
        boolean isKnown = tags.contains(token.text);
        for (Dish dish : dishes) {
            isKnown |= dish.name.equals(token.text);
        }
        mistakeIf(!isKnown, 2, token);
    }

    private void tellRule(List<Token> item) throws Mistake {
        mistakeIf(rules.size() == 8, 4, item.get(0));
        Rule rule = new Rule();
        rule.sort = item.get(1).kind;
        rule.dishesAhead = dishes.size();
        switch (rule.sort) {
            case "apart":
                rule.first = number(item.get(2), 1, 9);
                break;
            case "most":
                rule.first = number(item.get(2), 0, 9);
                break;
            case "least":
                rule.first = number(item.get(2), 1, 9);
                break;
            default:
                rule.first = number(item.get(2), 0, 9999);
                rule.second = number(item.get(4), rule.first, 9999);
                break;
        }
        if (!rule.sort.equals("energy")) {
            rule.name = item.get(3);
            lookAtName(rule.name);
        }
        if (rule.sort.equals("most") || rule.sort.equals("least")) {
            rule.second = number(item.get(5), 1, 14);
        }
        rules.add(rule);
    }

    private Set<Dish> named(String name, int dishesAhead) {
        Set<Dish> all = new LinkedHashSet<>();
        for (int i = 0; i < dishesAhead; i++) {
            if (dishes.get(i).name.equals(name)) {
                all.add(dishes.get(i));
                return all;
            }
        }
        for (Dish dish : dishes) {
            if (dish.tags.contains(name)) {
                all.add(dish);
            }
        }
        return all;
    }

    /** Each dish for itself: the names become 0 or 1, and the text is made shorter until one of these is left. */
    private Set<Dish> suitingDishes(Choice choice) {
        Set<Dish> all = new LinkedHashSet<>();
        for (Dish dish : dishes) {
            StringBuilder text = new StringBuilder();
            for (Token token : choice.tokens) {
                switch (token.kind) {
                    case "name": text.append(named(token.text, choice.dishesAhead).contains(dish) ? '1' : '0'); break;
                    case "not": text.append('!'); break;
                    case "and": text.append('&'); break;
                    case "or": text.append('|'); break;
                    default: text.append(token.kind); break;
                }
            }
            if (shortened(text.toString()).equals("1")) {
                all.add(dish);
            }
        }
        return all;
    }

    private static String shortened(String text) {
        String[][] steps = {{"(0)", "0"}, {"(1)", "1"}, {"!0", "1"}, {"!1", "0"}, {"0&0", "0"}, {"0&1", "0"},
            {"1&0", "0"}, {"1&1", "1"}};
        String now = text;
        for (int i = 0; i < 100; i++) {
            String before = now;
            for (String[] step : steps) {
                now = now.replace(step[0], step[1]);
                if (!now.equals(before)) {
                    break;
                }
            }
            if (now.equals(before)) {
                // Nothing binds more closely than "or" any more, but for what a parenthesis ahead still waits for.
                now = now.replaceFirst("(?<![!&])([01])\\|([01])(?!&)", "$1#$2").replace("0#0", "0")
                    .replaceAll("[01]#[01]", "1");
            }
        }
        return now;
    }

    private Dish planned(int day, int choice) {
        int faultsWithout = faultsOfTooMuch();
        Dish best = null;
        for (Dish dish : dishes) {
            if (!choices.get(choice).suiting.contains(dish)) {
                continue;
            }
            menu[day][choice] = dish;
            boolean isFree = faultsOfTooMuch() == faultsWithout;
            menu[day][choice] = null;
            if (isFree && (best == null || timesOf(dish) < timesOf(best))) {
                best = dish;
            }
        }
        return best;
    }

    private int faultsOfTooMuch() {
        int all = 0;
        for (int rule = 0; rule < rules.size(); rule++) {
            String sort = rules.get(rule).sort;
            all += sort.equals("apart") || sort.equals("most") ? faultsOf(rule) : 0;
        }
        return all;
    }

    private int timesOf(Dish one) {
        int all = 0;
        for (Dish[] day : menu) {
            for (Dish dish : day) {
                all += dish == one ? 1 : 0;
            }
        }
        return all;
    }

    private int closePairs(Rule rule) {
        int pairs = 0;
        int size = choices.size();
        for (int a = 0; a < menu.length * size; a++) {
            for (int b = a + 1; b < menu.length * size; b++) {
                boolean isMeant = rule.meant.contains(menu[a / size][a % size])
                    && rule.meant.contains(menu[b / size][b % size]);
                pairs += isMeant && b / size - a / size < rule.first ? 1 : 0;
            }
        }
        return pairs;
    }

    private int spans(Rule rule, int span, boolean isMost) {
        int faults = 0;
        for (int first = 0; first + span <= menu.length; first++) {
            int meant = 0;
            for (int day = first; day < first + span; day++) {
                for (Dish dish : menu[day]) {
                    meant += rule.meant.contains(dish) ? 1 : 0;
                }
            }
            faults += (isMost ? meant > rule.first : meant < rule.first) ? 1 : 0;
        }
        return faults;
    }

    private int wrongDays(Rule rule) {
        int wrong = 0;
        for (int day = 0; day < menu.length; day++) {
            wrong += day(day, false) < rule.first || day(day, false) > rule.second ? 1 : 0;
        }
        return wrong;
    }

    private static int set(int set, int index) {
        return set | 1 << index;
    }

    private int set(Set<Dish> some) {
        int set = 0;
        for (Dish dish : some) {
            set = set(set, dishes.indexOf(dish));
        }
        return set;
    }

    private int tagSet(Set<String> some) {
        int set = 0;
        for (String tag : some) {
            set = set(set, tags.indexOf(tag));
        }
        return set;
    }
}
