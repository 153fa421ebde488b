/** A language for menus: its programs tell foods, dishes, meals and rules, and menus are planned from them. */
public final class MenuScript {
    private static final int NONE = -1;
    private static final int MOST_NAMES = 16;
    private static final int MOST_FOODS = 16;
    private static final int MOST_DISHES = 16;
    private static final int MOST_TAGS = 16;
    private static final int MOST_MEALS = 4;
    private static final int MOST_CHOICES = 8;
    private static final int MOST_RULES = 8;
    private static final int MOST_PARTS = 8;
    private static final int MOST_DAYS = 14;
    private static final int MOST_PLACES = MOST_DAYS * MOST_CHOICES;
    private static final int MOST_DEPTH = 8;
    private static final int MOST_CHOICE_TOKENS = 30;
    private static final int MOST_PEOPLE = 1000;
    private static final int COUNTS = 8;
    private static final int FOOD_FACTS = 3;
    private static final int DISH_FACTS = 5;
    private static final int RULE_FACTS = 4;
    private static final int FED_BYTES = 20;

    private static final int ERROR_FORM = 1;
    private static final int ERROR_UNKNOWN = 2;
    private static final int ERROR_NAME_TAKEN = 3;
    private static final int ERROR_TOO_MANY = 4;
    private static final int ERROR_RANGE = 5;
    private static final int ERROR_NOTHING_TOLD = 6;

    private final Tape tape;
    private final Tokens tokens;
    private final FormReader formReader;
    private final Program program;
    private final ChoiceReader choiceReader;
    private final MeaningReader meaningReader;
    private final Menu menu;
    private final Planner planner;
    private int errorPosition;
    private int suitedDishes;

    public MenuScript() {
        tape = new Tape();
        tokens = new Tokens();
        formReader = new FormReader(tokens);
        program = new Program();
        choiceReader = new ChoiceReader(tokens, program);
        meaningReader = new MeaningReader(tokens, program, choiceReader);
        menu = new Menu(program);
        planner = new Planner(program, menu);
        errorPosition = NONE;
        suitedDishes = 0;
    }

    // ---- programs

    public int feed(int a, int b, int c, int d, int e) throws IllegalStateException {
        if (tape.length > Tape.MOST - FED_BYTES) {
            throw new IllegalStateException("the tape has no room for twenty bytes more");
        }
        tape.append(a);
        tape.append(b);
        tape.append(c);
        tape.append(d);
        tape.append(e);
        return tape.length;
    }

    public int trim(int n) throws IllegalArgumentException {
        if (n < 0 || n > tape.length) {
            throw new IllegalArgumentException("the tape has not so many bytes");
        }
        tape.shorten(n);
        return n;
    }

    public int compile() {
        program.clear();
        menu.begin(0);
        suitedDishes = 0;
        tokens.read(tape);
        tape.shorten(0);
        errorPosition = formReader.errorInProgram();
        if (errorPosition != NONE) {
            return ERROR_FORM;
        }
        int error = meaningReader.readProgram();
        errorPosition = tokens.startOf(meaningReader.errorToken);
        if (error != 0) {
            program.clear();
            return error;
        }
        meaningReader.findMeantDishes();
        return 0;
    }

    public int errorAt() {
        return errorPosition;
    }

    public int count(int what) throws IndexOutOfBoundsException {
        if (what < 0 || what >= COUNTS) {
            throw new IndexOutOfBoundsException("there is no such count");
        }
        return countOf(what);
    }

    public int test() {
        suitedDishes = 0;
        tokens.read(tape);
        tape.shorten(0);
        errorPosition = formReader.errorInChoice();
        if (errorPosition != NONE) {
            return ERROR_FORM;
        }
        int end = choiceReader.endOrUnknownName(0);
        if (tokens.kindOf(end) == Tokens.NAME) {
            errorPosition = tokens.startOf(end);
            return ERROR_UNKNOWN;
        }
        suitedDishes = choiceReader.suiting(0, program.dishes.size);
        return 0;
    }

    public int suited() {
        return suitedDishes;
    }

    // ---- foods, dishes, choices

    public int food(int food, int what) throws IndexOutOfBoundsException {
        if (!program.foods.has(food) || what < 0 || what >= FOOD_FACTS) {
            throw new IndexOutOfBoundsException("there is no such food, or nothing such of it");
        }
        return program.foodFact(food, what);
    }

    public int dish(int dish, int what) throws IndexOutOfBoundsException {
        if (!program.dishes.has(dish) || what < 0 || what >= DISH_FACTS) {
            throw new IndexOutOfBoundsException("there is no such dish, or nothing such of it");
        }
        return program.dishFact(dish, what);
    }

    public int grams(int dish, int food) throws IndexOutOfBoundsException {
        if (!program.dishes.has(dish) || !program.foods.has(food)) {
            throw new IndexOutOfBoundsException("there is no such dish or food");
        }
        return program.gramsOf(dish, food);
    }

    public int choice(int choice, boolean isMeal) throws IndexOutOfBoundsException {
        if (!program.hasChoice(choice)) {
            throw new IndexOutOfBoundsException("there is no such choice");
        }
        return isMeal ? program.mealOf[choice] : program.suiting[choice];
    }

    public int rule(int rule, int what) throws IndexOutOfBoundsException {
        if (!program.rules.has(rule) || what < 0 || what >= RULE_FACTS) {
            throw new IndexOutOfBoundsException("there is no such rule, or nothing such of it");
        }
        return program.rules.fact(rule, what);
    }

    // ---- menus

    public int plan(int days) throws IllegalArgumentException, IllegalStateException {
        if (days < 1 || days > MOST_DAYS) {
            throw new IllegalArgumentException("a menu is planned for 1 to 14 days");
        }
        if (program.dishes.size == 0) {
            throw new IllegalStateException("there is no program");
        }
        planner.fillMenu(days);
        return menu.allFaults();
    }

    public int at(int day, int choice) throws IndexOutOfBoundsException {
        if (!menu.hasPlace(day, choice)) {
            throw new IndexOutOfBoundsException("there is no such day or choice");
        }
        return menu.dishOn(day, choice);
    }

    public int set(int day, int choice, int dish) throws IndexOutOfBoundsException, IllegalStateException {
        if (!menu.hasPlace(day, choice) || dish != NONE && !program.dishes.has(dish)) {
            throw new IndexOutOfBoundsException("there is no such day, choice or dish");
        }
        if (dish != NONE && !program.isSuiting(choice, dish)) {
            throw new IllegalStateException("the dish does not suit the choice");
        }
        int before = menu.dishOn(day, choice);
        menu.put(day, choice, dish);
        return before;
    }

    public int faults() {
        return menu.allFaults();
    }

    public int faultsOf(int rule) throws IndexOutOfBoundsException {
        if (!program.rules.has(rule)) {
            throw new IndexOutOfBoundsException("there is no such rule");
        }
        return menu.faultsBy[rule];
    }

    public int improve() {
        planner.changeBest();
        return menu.allFaults();
    }

    public int exchange(int a, int b) throws IndexOutOfBoundsException, IllegalArgumentException {
        if (!menu.hasDay(a) || !menu.hasDay(b)) {
            throw new IndexOutOfBoundsException("there is no such day");
        }
        if (a == b) {
            throw new IllegalArgumentException("a day is not exchanged with itself");
        }
        for (int choice = 0; choice < program.choices; choice++) {
            int dishOfA = menu.dishOn(a, choice);
            menu.put(a, choice, menu.dishOn(b, choice));
            menu.put(b, choice, dishOfA);
        }
        return menu.allFaults();
    }

    public int day(int day, boolean isPrice) throws IndexOutOfBoundsException {
        if (!menu.hasDay(day)) {
            throw new IndexOutOfBoundsException("there is no such day");
        }
        return isPrice ? menu.priceOn(day) : menu.energyOn[day];
    }

    public int times(int dish) throws IndexOutOfBoundsException {
        if (!program.dishes.has(dish)) {
            throw new IndexOutOfBoundsException("there is no such dish");
        }
        return menu.timesOf[dish];
    }

    public long buy(int food, int people) throws IndexOutOfBoundsException, IllegalArgumentException {
        if (!program.foods.has(food)) {
            throw new IndexOutOfBoundsException("there is no such food");
        }
        if (people < 1 || people > MOST_PEOPLE) {
            throw new IllegalArgumentException("1 to 1000 people eat");
        }
        long all = 0;
        for (int dish = 0; dish < program.dishes.size && dish < MOST_DISHES; dish++) {
            all += menu.timesOf[dish] * program.gramsFor(people, dish, food);
        }
        return all;
    }

    public double meanPrice() {
        int places = menu.days * program.choices - menu.gaps;
        if (places <= 0) {
            return 0;
        }
        long all = 0;
        for (int day = 0; day < menu.days; day++) {
            all += menu.priceOn(day);
        }
        return (double) all / places;
    }

    public long digest() {
        long sum = 359;
        for (int what = 0; what < COUNTS; what++) {
            sum = sum * 31 + countOf(what);
        }
        return menu.addTo(program.addTo(sum));
    }

    private int countOf(int what) {
        switch (what) {
            case 0: return program.foods.size;
            case 1: return program.dishes.size;
            case 2: return program.meals.size;
            case 3: return program.choices;
            case 4: return program.rules.size;
            case 5: return program.tags.size;
            case 6: return menu.days;
            default: return tape.length;
        }
    }

    /** The bytes that are fed and not yet read. */
    private static final class Tape {
        static final int MOST = 1500;
        private final byte[] bytes = new byte[MOST];
        int length;

        void append(int number) {
            for (int shift = 24; shift >= 0; shift -= 8) {
                if (length >= 0 && length < MOST) {
                    bytes[length] = (byte) (number >> shift);
                    length++;
                }
            }
        }

        void shorten(int n) {
            if (n >= 0 && n < length) {
                length = n;
            }
        }

        /** NONE behind the end, so that words and numbers end there without a test of their own. */
        int byteAt(int position) {
            return position >= 0 && position < length && position < MOST ? bytes[position] & 255 : NONE;
        }
    }

    /** The tokens of a tape. They stay when the tape is emptied, for choices are looked at behind all items. */
    private static final class Tokens {
        static final int FOOD = 0;
        static final int DISH = 1;
        static final int FOR = 2;
        static final int IS = 3;
        static final int OF = 4;
        static final int MEAL = 5;
        static final int RULE = 6;
        static final int APART = 7;
        static final int MOST = 8;
        static final int LEAST = 9;
        static final int IN = 10;
        static final int ENERGY = 11;
        static final int TO = 12;
        static final int AND = 13;
        static final int OR = 14;
        static final int NOT = 15;
        static final int PRICE = 16;
        static final int SEMICOLON = 17;
        static final int COLON = 18;
        static final int COMMA = 19;
        static final int OPEN = 20;
        static final int CLOSE = 21;
        static final int NAME = 22;
        static final int NUMBER = 23;
        static final int BAD = 24;
        static final int END = 25;

        /** The keywords in the order of their kinds, a blank behind each. */
        private static final String KEYWORDS =
            "food dish for is of meal rule apart most least in energy to and or not price ";
        /** The symbols in the order of their kinds. */
        private static final String SYMBOLS = ";:,()";
        private static final int KEYWORD_COUNT = 17;
        private static final int LONGEST_WORD = 10;
        private static final int LONGEST_NUMBER = 4;
        /** Each byte may be a token, and the end is one more. */
        private static final int ROOM = Tape.MOST + 1;

        private final long[] keywords = new long[KEYWORD_COUNT];
        private final int[] kinds = new int[ROOM];
        private final int[] starts = new int[ROOM];
        private final long[] values = new long[ROOM];
        private int size;

        Tokens() {
            int keyword = 0;
            long code = 0;
            for (int i = 0; i < KEYWORDS.length(); i++) {
                char sign = KEYWORDS.charAt(i);
                if (sign != ' ') {
                    code = withLetter(code, sign);
                } else if (keyword < KEYWORD_COUNT) {
                    keywords[keyword] = code;
                    keyword++;
                    code = 0;
                }
            }
        }

        void read(Tape tape) {
            size = 0;
            int position = 0;
            for (int i = 0; i < Tape.MOST && position < tape.length; i++) {
                position = readAt(tape, position);
            }
            append(END, tape.length, 0);
        }

        int kindOf(int token) {
            return token >= 0 && token < size && token < ROOM ? kinds[token] : END;
        }

        int startOf(int token) {
            return token >= 0 && token < size && token < ROOM ? starts[token] : NONE;
        }

        /** The number that a number tells, or that stands for a word. */
        long valueOf(int token) {
            return token >= 0 && token < size && token < ROOM ? values[token] : 0;
        }

        private int readAt(Tape tape, int position) {
            int sign = tape.byteAt(position);
            if (sign == 32 || sign == 10) {
                return position + 1;
            }
            if (isLetter(sign)) {
                return readWord(tape, position);
            }
            if (isDigit(sign)) {
                return readNumber(tape, position);
            }
            int symbol = SYMBOLS.indexOf((char) sign);
            append(symbol >= 0 ? SEMICOLON + symbol : BAD, position, 0);
            return position + 1;
        }

        private int readWord(Tape tape, int start) {
            long code = 0;
            int end = start;
            while (end < Tape.MOST && isLetter(tape.byteAt(end))) {
                code = withLetter(code, tape.byteAt(end));
                end++;
            }
            append(end - start <= LONGEST_WORD ? kindOfWord(code) : BAD, start, code);
            return end;
        }

        private int readNumber(Tape tape, int start) {
            long value = 0;
            int end = start;
            while (end < Tape.MOST && isDigit(tape.byteAt(end))) {
                value = value * 10 + tape.byteAt(end) - '0';
                end++;
            }
            append(end - start <= LONGEST_NUMBER ? NUMBER : BAD, start, value);
            return end;
        }

        private int kindOfWord(long code) {
            for (int keyword = 0; keyword < KEYWORD_COUNT; keyword++) {
                if (keywords[keyword] == code) {
                    return keyword;
                }
            }
            return NAME;
        }

        private void append(int kind, int start, long value) {
            if (size >= 0 && size < ROOM) {
                kinds[size] = kind;
                starts[size] = start;
                values[size] = value;
                size++;
            }
        }

        private static boolean isLetter(int sign) {
            return sign >= 'a' && sign <= 'z';
        }

        private static boolean isDigit(int sign) {
            return sign >= '0' && sign <= '9';
        }

        /** Ten letters to the base of 27 fit into a long, so that no word needs a text. */
        private static long withLetter(long code, int letter) {
            return code * 27 + (letter - 'a' + 1);
        }
    }

    /** Looks at the form alone. Where a read fails, the token at hand is the first that can't stand there. */
    private static final class FormReader {
        private final Tokens tokens;
        private int at;
        private int choiceTokens;

        FormReader(Tokens tokens) {
            this.tokens = tokens;
        }

        int errorInProgram() {
            at = 0;
            boolean isRead = true;
            for (int i = 0; i < Tape.MOST && isRead && (i == 0 || !isKind(Tokens.END)); i++) {
                switch (tokens.kindOf(at)) {
                    case Tokens.FOOD: isRead = readFood(); break;
                    case Tokens.DISH: isRead = readDish(); break;
                    case Tokens.MEAL: isRead = readMeal(); break;
                    case Tokens.RULE: isRead = readRule(); break;
                    default: isRead = false; break;
                }
            }
            return isRead ? NONE : tokens.startOf(at);
        }

        int errorInChoice() {
            at = 0;
            return readExpression(0) && isKind(Tokens.END) ? NONE : tokens.startOf(at);
        }

        private boolean readFood() {
            boolean isRead = take(Tokens.FOOD) && take(Tokens.NAME) && take(Tokens.NUMBER);
            if (isRead && isKind(Tokens.PRICE)) {
                isRead = take(Tokens.PRICE) && take(Tokens.NUMBER);
            }
            return isRead && readTags() && take(Tokens.SEMICOLON);
        }

        private boolean readDish() {
            boolean isRead = take(Tokens.DISH) && take(Tokens.NAME) && take(Tokens.FOR) && take(Tokens.NUMBER)
                && take(Tokens.COLON) && readPart();
            for (int i = 0; i < Tape.MOST && isRead && isKind(Tokens.COMMA); i++) {
                isRead = take(Tokens.COMMA) && readPart();
            }
            return isRead && readTags() && take(Tokens.SEMICOLON);
        }

        private boolean readPart() {
            boolean isRead = take(Tokens.NUMBER);
            if (isRead && isKind(Tokens.OF)) {
                isRead = take(Tokens.OF);
            }
            return isRead && take(Tokens.NAME);
        }

        private boolean readTags() {
            if (!isKind(Tokens.IS)) {
                return true;
            }
            boolean isRead = take(Tokens.IS) && take(Tokens.NAME);
            for (int i = 0; i < Tape.MOST && isRead && isKind(Tokens.COMMA); i++) {
                isRead = take(Tokens.COMMA) && take(Tokens.NAME);
            }
            return isRead;
        }

        private boolean readMeal() {
            boolean isRead = take(Tokens.MEAL) && take(Tokens.NAME) && take(Tokens.COLON)
                && readExpression(0);
            for (int i = 0; i < Tape.MOST && isRead && isKind(Tokens.COMMA); i++) {
                isRead = take(Tokens.COMMA) && readExpression(0);
            }
            return isRead && take(Tokens.SEMICOLON);
        }

        private boolean readRule() {
            if (!take(Tokens.RULE)) {
                return false;
            }
            switch (tokens.kindOf(at)) {
                case Tokens.APART:
                    return take(Tokens.APART) && take(Tokens.NUMBER) && take(Tokens.NAME) && take(Tokens.SEMICOLON);
                case Tokens.MOST:
                    return take(Tokens.MOST) && readSpan();
                case Tokens.LEAST:
                    return take(Tokens.LEAST) && readSpan();
                default:
                    return take(Tokens.ENERGY) && take(Tokens.NUMBER) && take(Tokens.TO) && take(Tokens.NUMBER)
                        && take(Tokens.SEMICOLON);
            }
        }

        private boolean readSpan() {
            return take(Tokens.NUMBER) && take(Tokens.NAME) && take(Tokens.IN) && take(Tokens.NUMBER)
                && take(Tokens.SEMICOLON);
        }

        /** Which of "and" and "or" stands where makes no difference for the form. */
        private boolean readExpression(int depth) {
            if (depth == 0) {
                choiceTokens = 0;
            }
            boolean isRead = readOne(depth);
            for (int i = 0; i < MOST_CHOICE_TOKENS && isRead && (isKind(Tokens.AND) || isKind(Tokens.OR)); i++) {
                isRead = takeOfChoice(tokens.kindOf(at)) && readOne(depth);
            }
            return isRead;
        }

        private boolean readOne(int depth) {
            if (isKind(Tokens.NAME)) {
                return takeOfChoice(Tokens.NAME);
            }
            if (depth >= MOST_DEPTH) {
                return false;
            }
            if (isKind(Tokens.NOT)) {
                return takeOfChoice(Tokens.NOT) && readOne(depth + 1);
            }
            return takeOfChoice(Tokens.OPEN) && readExpression(depth + 1) && takeOfChoice(Tokens.CLOSE);
        }

        private boolean isKind(int kind) {
            return tokens.kindOf(at) == kind;
        }

        private boolean take(int kind) {
            if (tokens.kindOf(at) != kind) {
                return false;
            }
            at++;
            return true;
        }

        private boolean takeOfChoice(int kind) {
            if (choiceTokens >= MOST_CHOICE_TOKENS || tokens.kindOf(at) != kind) {
                return false;
            }
            choiceTokens++;
            at++;
            return true;
        }
    }

    /** Names in the order in which they were told, each as the number that stands for its word. */
    private static final class NameRow {
        private final long[] names = new long[MOST_NAMES];
        private final int most;
        int size;

        NameRow(int most) {
            this.most = most;
        }

        boolean has(int index) {
            return index >= 0 && index < size && index < MOST_NAMES;
        }

        boolean isFull() {
            return size >= most;
        }

        int indexOf(long name) {
            for (int i = 0; i < size && i < MOST_NAMES; i++) {
                if (names[i] == name) {
                    return i;
                }
            }
            return NONE;
        }

        void add(long name) {
            if (size >= 0 && size < MOST_NAMES) {
                names[size] = name;
                size++;
            }
        }
    }

    private static final class RuleRow {
        static final int APART = 0;
        static final int MOST = 1;
        static final int LEAST = 2;
        static final int ENERGY = 3;

        final int[] sort = new int[MOST_RULES];
        final int[] first = new int[MOST_RULES];
        final int[] second = new int[MOST_RULES];
        final int[] meant = new int[MOST_RULES];
        int size;

        boolean has(int rule) {
            return rule >= 0 && rule < size && rule < MOST_RULES;
        }

        int fact(int rule, int what) {
            if (!has(rule)) {
                return 0;
            }
            switch (what) {
                case 0: return sort[rule];
                case 1: return first[rule];
                case 2: return second[rule];
                default: return meant[rule];
            }
        }
    }

    /** What a program tells. Entries behind a size are left over from earlier programs, and are told anew. */
    private static final class Program {
        final NameRow foods = new NameRow(MOST_FOODS);
        final NameRow dishes = new NameRow(MOST_DISHES);
        final NameRow meals = new NameRow(MOST_MEALS);
        final NameRow tags = new NameRow(MOST_TAGS);
        final RuleRow rules = new RuleRow();
        final int[] foodEnergy = new int[MOST_FOODS];
        final int[] foodPrice = new int[MOST_FOODS];
        final int[] foodTags = new int[MOST_FOODS];
        final int[] servings = new int[MOST_DISHES];
        final int[] servingEnergy = new int[MOST_DISHES];
        final int[] servingPrice = new int[MOST_DISHES];
        final int[] dishTags = new int[MOST_DISHES];
        final int[] parts = new int[MOST_DISHES];
        final int[][] gramsIn = new int[MOST_DISHES][MOST_FOODS];
        final int[] mealOf = new int[MOST_CHOICES];
        final int[] suiting = new int[MOST_CHOICES];
        int choices;

        void clear() {
            foods.size = 0;
            dishes.size = 0;
            meals.size = 0;
            tags.size = 0;
            rules.size = 0;
            choices = 0;
        }

        boolean hasChoice(int choice) {
            return choice >= 0 && choice < choices && choice < MOST_CHOICES;
        }

        boolean isNamed(long name) {
            return foods.indexOf(name) != NONE || dishes.indexOf(name) != NONE || meals.indexOf(name) != NONE;
        }

        boolean isSuiting(int choice, int dish) {
            return hasChoice(choice) && dishes.has(dish) && (suiting[choice] >> dish & 1) == 1;
        }

        int dishesWithTag(int tag) {
            int set = 0;
            for (int dish = 0; dish < dishes.size && dish < MOST_DISHES; dish++) {
                if (tag >= 0 && (dishTags[dish] >> tag & 1) == 1) {
                    set |= 1 << dish;
                }
            }
            return set;
        }

        int foodFact(int food, int what) {
            if (!foods.has(food)) {
                return 0;
            }
            switch (what) {
                case 0: return foodEnergy[food];
                case 1: return foodPrice[food];
                default: return foodTags[food];
            }
        }

        int dishFact(int dish, int what) {
            if (!dishes.has(dish)) {
                return 0;
            }
            switch (what) {
                case 0: return servings[dish];
                case 1: return servingEnergy[dish];
                case 2: return servingPrice[dish];
                case 3: return dishTags[dish];
                default: return parts[dish];
            }
        }

        int gramsOf(int dish, int food) {
            return dishes.has(dish) && foods.has(food) ? gramsIn[dish][food] : 0;
        }

        /** The grams of a food in so many servings of a dish; a long, for servings and grams may both be many. */
        long gramsFor(int number, int dish, int food) {
            if (dish < 0 || dish >= MOST_DISHES || food < 0 || food >= MOST_FOODS || servings[dish] < 1) {
                return 0;
            }
            return (long) number * gramsIn[dish][food] / servings[dish];
        }

        long addTo(long start) {
            long sum = start;
            for (int food = 0; food < foods.size; food++) {
                for (int what = 0; what < FOOD_FACTS; what++) {
                    sum = sum * 31 + foodFact(food, what);
                }
            }
            for (int dish = 0; dish < dishes.size; dish++) {
                for (int what = 0; what < DISH_FACTS; what++) {
                    sum = sum * 31 + dishFact(dish, what);
                }
            }
            for (int choice = 0; choice < choices && choice < MOST_CHOICES; choice++) {
                sum = sum * 31 + mealOf[choice];
                sum = sum * 31 + suiting[choice];
            }
            for (int rule = 0; rule < rules.size; rule++) {
                for (int what = 0; what < RULE_FACTS; what++) {
                    sum = sum * 31 + rules.fact(rule, what);
                }
            }
            return sum;
        }
    }

    /** Looks at the names of a choice, and which dishes suit it. The choice's form has to be right. */
    private static final class ChoiceReader {
        private final Tokens tokens;
        private final Program program;
        private int at;
        private int dishesAhead;

        ChoiceReader(Tokens tokens, Program program) {
            this.tokens = tokens;
            this.program = program;
        }

        /** The first token from here that is behind the choice, or a name that nothing told ahead has. */
        int endOrUnknownName(int first) {
            int token = first;
            for (int i = 0; i < MOST_CHOICE_TOKENS && isInside(token); i++) {
                token++;
            }
            return token;
        }

        /** The set of the dishes that suit the choice that begins here. */
        int suiting(int first, int dishesToldAhead) {
            at = first;
            dishesAhead = dishesToldAhead;
            return expression(0);
        }

        private boolean isInside(int token) {
            switch (tokens.kindOf(token)) {
                case Tokens.NAME:
                    long name = tokens.valueOf(token);
                    return program.dishes.indexOf(name) != NONE || program.tags.indexOf(name) != NONE;
                case Tokens.AND:
                case Tokens.OR:
                case Tokens.NOT:
                case Tokens.OPEN:
                case Tokens.CLOSE:
                    return true;
                default:
                    return false;
            }
        }

        private int expression(int depth) {
            int set = 0;
            int both = one(depth);
            for (int i = 0; i < MOST_CHOICE_TOKENS && isJoined(); i++) {
                boolean isOr = tokens.kindOf(at) == Tokens.OR;
                at++;
                if (isOr) {
                    set |= both;
                    both = one(depth);
                } else {
                    both &= one(depth);
                }
            }
            return set | both;
        }

        private boolean isJoined() {
            return tokens.kindOf(at) == Tokens.OR || tokens.kindOf(at) == Tokens.AND;
        }

        private int one(int depth) {
            int kind = tokens.kindOf(at);
            long name = tokens.valueOf(at);
            at++;
            if (kind == Tokens.NAME) {
                return dishesNamed(name);
            }
            if (depth >= MOST_DEPTH) {
                return 0;
            }
            if (kind == Tokens.NOT) {
                return (1 << program.dishes.size) - 1 & ~one(depth + 1);
            }
            int set = expression(depth + 1);
            at++;
            return set;
        }

        private int dishesNamed(long name) {
            int dish = program.dishes.indexOf(name);
            if (dish != NONE && dish < dishesAhead) {
                return 1 << dish;
            }
            return program.dishesWithTag(program.tags.indexOf(name));
        }
    }

    /** Looks at the meaning of a program whose form is right, and tells it to the program. */
    private static final class MeaningReader {
        private static final int MOST_ENERGY = 900;
        private static final int MOST_PRICE = 999;
        private static final int MOST_SERVINGS = 20;
        private static final int MOST_OF_PART = 2000;
        private static final int MOST_OF_RULE = 9;
        private static final int MOST_RULE_ENERGY = 9999;
        private static final int MOST_GRAMS_OF_DISH = 100000;
        private static final int MOST_SUM_OF_DISH = 1000000;

        private final Tokens tokens;
        private final Program program;
        private final ChoiceReader choiceReader;
        private final int[] choiceStart = new int[MOST_CHOICES];
        private final int[] choiceDishesAhead = new int[MOST_CHOICES];
        private final int[] ruleTag = new int[MOST_RULES];
        private int at;
        private int error;
        private int errorToken;
        private int number;
        private int tagSet;
        private long dishEnergy;
        private long dishPrice;

        MeaningReader(Tokens tokens, Program program, ChoiceReader choiceReader) {
            this.tokens = tokens;
            this.program = program;
            this.choiceReader = choiceReader;
        }

        int readProgram() {
            at = 0;
            error = 0;
            errorToken = NONE;
            boolean isRight = true;
            for (int i = 0; i < Tape.MOST && isRight && !isKind(Tokens.END); i++) {
                switch (tokens.kindOf(at)) {
                    case Tokens.FOOD: isRight = readFood(); break;
                    case Tokens.DISH: isRight = readDish(); break;
                    case Tokens.MEAL: isRight = readMeal(); break;
                    default: isRight = readRule(); break;
                }
            }
            if (isRight && (program.dishes.size == 0 || program.meals.size == 0)) {
                fail(ERROR_NOTHING_TOLD, at);
            }
            return error;
        }

        private boolean readFood() {
            int food = program.foods.size;
            if (program.foods.isFull() || food < 0 || food >= MOST_FOODS) {
                return fail(ERROR_TOO_MANY, at);
            }
            at++;
            long name = tokens.valueOf(at);
            if (!takeNewName() || !takeNumber(0, MOST_ENERGY)) {
                return false;
            }
            program.foodEnergy[food] = number;
            program.foodPrice[food] = 0;
            if (isKind(Tokens.PRICE)) {
                at++;
                if (!takeNumber(0, MOST_PRICE)) {
                    return false;
                }
                program.foodPrice[food] = number;
            }
            tagSet = 0;
            if (!takeTags()) {
                return false;
            }
            program.foodTags[food] = tagSet;
            program.foods.add(name);
            at++;
            return true;
        }

        private boolean readDish() {
            int dish = program.dishes.size;
            if (program.dishes.isFull() || dish < 0 || dish >= MOST_DISHES) {
                return fail(ERROR_TOO_MANY, at);
            }
            at++;
            int nameToken = at;
            if (!takeNewName()) {
                return false;
            }
            at++;
            if (!takeNumber(1, MOST_SERVINGS)) {
                return false;
            }
            program.servings[dish] = number;
            tagSet = 0;
            if (!takeParts(dish) || !takeTags()) {
                return false;
            }
            if (isTooMuch(dish)) {
                return fail(ERROR_RANGE, nameToken);
            }
            tellDish(dish);
            program.dishes.add(tokens.valueOf(nameToken));
            at++;
            return true;
        }

        private boolean takeParts(int dish) {
            dishEnergy = 0;
            dishPrice = 0;
            for (int food = 0; food < MOST_FOODS; food++) {
                program.gramsIn[dish][food] = 0;
            }
            boolean isRight = true;
            int part = 0;
            while (part < Tape.MOST && isRight && (isKind(Tokens.COLON) || isKind(Tokens.COMMA))) {
                at++;
                isRight = takePart(dish, part);
                part++;
            }
            program.parts[dish] = part;
            return isRight;
        }

        private boolean takePart(int dish, int part) {
            if (part >= MOST_PARTS) {
                return fail(ERROR_TOO_MANY, at);
            }
            if (!takeNumber(1, MOST_OF_PART)) {
                return false;
            }
            boolean isDish = isKind(Tokens.OF);
            if (isDish) {
                at++;
            }
            NameRow row = isDish ? program.dishes : program.foods;
            int other = row.indexOf(tokens.valueOf(at));
            if (other == NONE) {
                return fail(ERROR_UNKNOWN, at);
            }
            at++;
            if (isDish) {
                addDish(dish, other);
            } else {
                addFood(dish, other);
            }
            return true;
        }

        private void addFood(int dish, int food) {
            program.gramsIn[dish][food] += number;
            dishEnergy += number * program.foodEnergy[food] / 100;
            dishPrice += number * program.foodPrice[food] / 100;
            tagSet |= program.foodTags[food];
        }

        private void addDish(int dish, int other) {
            for (int food = 0; food < program.foods.size && food < MOST_FOODS; food++) {
                program.gramsIn[dish][food] += (int) program.gramsFor(number, other, food);
            }
            dishEnergy += (long) number * program.servingEnergy[other];
            dishPrice += (long) number * program.servingPrice[other];
            tagSet |= program.dishTags[other];
        }

        private boolean isTooMuch(int dish) {
            long grams = 0;
            for (int food = 0; food < MOST_FOODS; food++) {
                grams += program.gramsIn[dish][food];
            }
            return grams > MOST_GRAMS_OF_DISH || dishEnergy > MOST_SUM_OF_DISH || dishPrice > MOST_SUM_OF_DISH;
        }

        private void tellDish(int dish) {
            int servings = program.servings[dish];
            if (servings > 0) {
                program.servingEnergy[dish] = (int) (dishEnergy / servings);
                program.servingPrice[dish] = (int) (dishPrice / servings);
            }
            program.dishTags[dish] = tagSet;
        }

        /** Takes what stands ahead of the semicolon: each name is behind "is", or behind a comma. */
        private boolean takeTags() {
            for (int i = 0; i < Tape.MOST && !isKind(Tokens.SEMICOLON); i++) {
                at++;
                long name = tokens.valueOf(at);
                if (program.tags.indexOf(name) == NONE) {
                    if (program.tags.isFull()) {
                        return fail(ERROR_TOO_MANY, at);
                    }
                    program.tags.add(name);
                }
                tagSet |= 1 << program.tags.indexOf(name);
                at++;
            }
            return true;
        }

        private boolean readMeal() {
            if (program.meals.isFull()) {
                return fail(ERROR_TOO_MANY, at);
            }
            at++;
            long name = tokens.valueOf(at);
            if (!takeNewName()) {
                return false;
            }
            for (int i = 0; i < Tape.MOST && !isKind(Tokens.SEMICOLON); i++) {
                at++;
                if (!takeChoice()) {
                    return false;
                }
            }
            program.meals.add(name);
            at++;
            return true;
        }

        private boolean takeChoice() {
            int choice = program.choices;
            if (choice < 0 || choice >= MOST_CHOICES) {
                return fail(ERROR_TOO_MANY, at);
            }
            choiceStart[choice] = at;
            choiceDishesAhead[choice] = program.dishes.size;
            program.mealOf[choice] = program.meals.size;
            at = choiceReader.endOrUnknownName(at);
            if (isKind(Tokens.NAME)) {
                return fail(ERROR_UNKNOWN, at);
            }
            program.choices++;
            return true;
        }

        private boolean readRule() {
            int rule = program.rules.size;
            if (rule < 0 || rule >= MOST_RULES) {
                return fail(ERROR_TOO_MANY, at);
            }
            program.rules.second[rule] = 0;
            program.rules.meant[rule] = 0;
            ruleTag[rule] = NONE;
            at++;
            int kind = tokens.kindOf(at);
            at++;
            boolean isRight;
            switch (kind) {
                case Tokens.APART: isRight = takeApart(rule); break;
                case Tokens.MOST: isRight = takeSpan(rule, RuleRow.MOST, 0); break;
                case Tokens.LEAST: isRight = takeSpan(rule, RuleRow.LEAST, 1); break;
                default: isRight = takeEnergy(rule); break;
            }
            if (!isRight) {
                return false;
            }
            program.rules.size++;
            at++;
            return true;
        }

        private boolean takeApart(int rule) {
            if (!takeNumber(1, MOST_OF_RULE)) {
                return false;
            }
            program.rules.sort[rule] = RuleRow.APART;
            program.rules.first[rule] = number;
            return takeMeant(rule);
        }

        private boolean takeSpan(int rule, int sort, int least) {
            if (!takeNumber(least, MOST_OF_RULE)) {
                return false;
            }
            program.rules.sort[rule] = sort;
            program.rules.first[rule] = number;
            if (!takeMeant(rule)) {
                return false;
            }
            at++;
            if (!takeNumber(1, MOST_DAYS)) {
                return false;
            }
            program.rules.second[rule] = number;
            return true;
        }

        private boolean takeEnergy(int rule) {
            if (!takeNumber(0, MOST_RULE_ENERGY)) {
                return false;
            }
            int least = number;
            at++;
            if (!takeNumber(least, MOST_RULE_ENERGY)) {
                return false;
            }
            program.rules.sort[rule] = RuleRow.ENERGY;
            program.rules.first[rule] = least;
            program.rules.second[rule] = number;
            return true;
        }

        private boolean takeMeant(int rule) {
            long name = tokens.valueOf(at);
            int dish = program.dishes.indexOf(name);
            int tag = program.tags.indexOf(name);
            if (dish != NONE) {
                program.rules.meant[rule] = 1 << dish;
            } else if (tag != NONE) {
                ruleTag[rule] = tag;
            } else {
                return fail(ERROR_UNKNOWN, at);
            }
            at++;
            return true;
        }

        /** Behind all items, for dishes that are told later can have the tag too. */
        void findMeantDishes() {
            for (int choice = 0; choice < program.choices && choice < MOST_CHOICES; choice++) {
                program.suiting[choice] = choiceReader.suiting(choiceStart[choice], choiceDishesAhead[choice]);
            }
            for (int rule = 0; rule < program.rules.size && rule < MOST_RULES; rule++) {
                if (ruleTag[rule] != NONE) {
                    program.rules.meant[rule] = program.dishesWithTag(ruleTag[rule]);
                }
            }
        }

        private boolean takeNewName() {
            if (program.isNamed(tokens.valueOf(at))) {
                return fail(ERROR_NAME_TAKEN, at);
            }
            at++;
            return true;
        }

        private boolean takeNumber(int least, int most) {
            long value = tokens.valueOf(at);
            if (value < least || value > most) {
                return fail(ERROR_RANGE, at);
            }
            number = (int) value;
            at++;
            return true;
        }

        private boolean isKind(int kind) {
            return tokens.kindOf(at) == kind;
        }

        private boolean fail(int code, int token) {
            error = code;
            errorToken = token;
            return false;
        }
    }

    /** The dishes of the days. What each rule counts is kept up to date, so that a trial change costs little. */
    private static final class Menu {
        private final Program program;
        private final int[][] dishAt = new int[MOST_DAYS][MOST_CHOICES];
        private final int[][] meantOn = new int[MOST_RULES][MOST_DAYS];
        final int[] energyOn = new int[MOST_DAYS];
        final int[] timesOf = new int[MOST_DISHES];
        final int[] faultsBy = new int[MOST_RULES];
        int days;
        int gaps;

        Menu(Program program) {
            this.program = program;
        }

        /** Begins a menu without dishes. */
        void begin(int newDays) {
            days = newDays < 0 || newDays > MOST_DAYS ? 0 : newDays;
            gaps = days * program.choices;
            for (int day = 0; day < MOST_DAYS; day++) {
                energyOn[day] = 0;
                for (int choice = 0; choice < MOST_CHOICES; choice++) {
                    dishAt[day][choice] = NONE;
                }
                for (int rule = 0; rule < MOST_RULES; rule++) {
                    meantOn[rule][day] = 0;
                }
            }
            for (int dish = 0; dish < MOST_DISHES; dish++) {
                timesOf[dish] = 0;
            }
            for (int rule = 0; rule < MOST_RULES; rule++) {
                faultsBy[rule] = 0;
                recount(rule);
            }
        }

        boolean hasDay(int day) {
            return day >= 0 && day < days && day < MOST_DAYS;
        }

        boolean hasPlace(int day, int choice) {
            return hasDay(day) && program.hasChoice(choice);
        }

        int dishOn(int day, int choice) {
            return hasPlace(day, choice) ? dishAt[day][choice] : NONE;
        }

        void put(int day, int choice, int dish) {
            if (!hasPlace(day, choice)) {
                return;
            }
            int before = dishAt[day][choice];
            dishAt[day][choice] = dish;
            tally(day, before, -1);
            tally(day, dish, 1);
            for (int rule = 0; rule < program.rules.size && rule < MOST_RULES; rule++) {
                int change = meaning(rule, dish) - meaning(rule, before);
                meantOn[rule][day] += change;
                if (change != 0 || program.rules.sort[rule] == RuleRow.ENERGY) {
                    recount(rule);
                }
            }
        }

        int allFaults() {
            int all = gaps;
            for (int rule = 0; rule < program.rules.size && rule < MOST_RULES; rule++) {
                all += faultsBy[rule];
            }
            return all;
        }

        /** The faults that planning takes heed of: those of the rules apart and most. */
        int faultsOfTooMuch() {
            int all = 0;
            for (int rule = 0; rule < program.rules.size && rule < MOST_RULES; rule++) {
                int sort = program.rules.sort[rule];
                if (sort == RuleRow.APART || sort == RuleRow.MOST) {
                    all += faultsBy[rule];
                }
            }
            return all;
        }

        int priceOn(int day) {
            int all = 0;
            for (int choice = 0; choice < program.choices; choice++) {
                int dish = dishOn(day, choice);
                if (program.dishes.has(dish)) {
                    all += program.servingPrice[dish];
                }
            }
            return all;
        }

        long addTo(long start) {
            long sum = start;
            for (int day = 0; day < days; day++) {
                for (int choice = 0; choice < program.choices; choice++) {
                    sum = sum * 31 + dishOn(day, choice);
                }
            }
            return sum * 31 + allFaults();
        }

        private void tally(int day, int dish, int number) {
            if (program.dishes.has(dish)) {
                timesOf[dish] += number;
                energyOn[day] += number * program.servingEnergy[dish];
            } else {
                gaps += number;
            }
        }

        private int meaning(int rule, int dish) {
            return program.dishes.has(dish) ? program.rules.meant[rule] >> dish & 1 : 0;
        }

        private void recount(int rule) {
            if (!program.rules.has(rule)) {
                return;
            }
            int first = program.rules.first[rule];
            int second = program.rules.second[rule];
            switch (program.rules.sort[rule]) {
                case RuleRow.APART: faultsBy[rule] = closePairs(rule, first); break;
                case RuleRow.MOST: faultsBy[rule] = spansOutside(rule, 0, first, Math.min(second, days)); break;
                case RuleRow.LEAST: faultsBy[rule] = spansOutside(rule, first, MOST_PLACES, second); break;
                default: faultsBy[rule] = daysOutside(first, second); break;
            }
        }

        private int closePairs(int rule, int distance) {
            int pairs = 0;
            int near = 0;
            for (int day = 0; day < days && day < MOST_DAYS; day++) {
                int here = meantOn[rule][day];
                if (day >= distance && distance >= 0) {
                    near -= meantOn[rule][day - distance];
                }
                pairs += here * near + here * (here - 1) / 2;
                near += here;
            }
            return pairs;
        }

        private int spansOutside(int rule, int least, int most, int span) {
            int outside = 0;
            int meant = 0;
            for (int day = 0; day < days && day < MOST_DAYS; day++) {
                meant += meantOn[rule][day];
                if (day >= span && span >= 0) {
                    meant -= meantOn[rule][day - span];
                }
                if (day >= span - 1 && (meant < least || meant > most)) {
                    outside++;
                }
            }
            return outside;
        }

        private int daysOutside(int least, int most) {
            int outside = 0;
            for (int day = 0; day < days && day < MOST_DAYS; day++) {
                if (energyOn[day] < least || energyOn[day] > most) {
                    outside++;
                }
            }
            return outside;
        }
    }

    private static final class Planner {
        private final Program program;
        private final Menu menu;

        Planner(Program program, Menu menu) {
            this.program = program;
            this.menu = menu;
        }

        void fillMenu(int days) {
            menu.begin(days);
            for (int day = 0; day < menu.days; day++) {
                for (int choice = 0; choice < program.choices; choice++) {
                    menu.put(day, choice, bestFor(day, choice));
                }
            }
        }

        private int bestFor(int day, int choice) {
            int faultsWithout = menu.faultsOfTooMuch();
            int best = NONE;
            for (int dish = 0; dish < program.dishes.size && dish < MOST_DISHES; dish++) {
                if (program.isSuiting(choice, dish) && (best == NONE || menu.timesOf[dish] < menu.timesOf[best])) {
                    menu.put(day, choice, dish);
                    if (menu.faultsOfTooMuch() <= faultsWithout) {
                        best = dish;
                    }
                    menu.put(day, choice, NONE);
                }
            }
            return best;
        }

        void changeBest() {
            int fewest = menu.allFaults();
            int bestDay = NONE;
            int bestChoice = NONE;
            int bestDish = NONE;
            for (int day = 0; day < menu.days; day++) {
                for (int choice = 0; choice < program.choices; choice++) {
                    int before = menu.dishOn(day, choice);
                    int dish = bestInstead(day, choice, fewest);
                    if (dish != NONE) {
                        menu.put(day, choice, dish);
                        fewest = menu.allFaults();
                        bestDay = day;
                        bestChoice = choice;
                        bestDish = dish;
                    }
                    menu.put(day, choice, before);
                }
            }
            menu.put(bestDay, bestChoice, bestDish);
        }

        /** The dish with the fewest faults there, if these are fewer than told; what was there is to be put back. */
        private int bestInstead(int day, int choice, int faultsToBeat) {
            int fewest = faultsToBeat;
            int best = NONE;
            for (int dish = 0; dish < program.dishes.size; dish++) {
                if (program.isSuiting(choice, dish)) {
                    menu.put(day, choice, dish);
                    if (menu.allFaults() < fewest) {
                        fewest = menu.allFaults();
                        best = dish;
                    }
                }
            }
            return best;
        }
    }
}
