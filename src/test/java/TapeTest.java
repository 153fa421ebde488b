/** Promises 1 to 3, and 6 as far as it tells of the tape: a new object, feed, trim. */
public final class TapeTest {
    public static void main(String[] args) {
        newObject();
        feeding();
        bytesOfNumbers();
        fullTape();
        lengthsWithRoom();
        trimming();
        everyLength();
        trimmedTokens();
        Check.end("TapeTest");
    }

    private static void newObject() {
        MenuScript script = new MenuScript();
        for (int what = 0; what < 8; what++) {
            Check.sameLong("count(" + what + ") of a new object", script.count(what), 0);
        }
        Check.sameLong("errorAt() of a new object", script.errorAt(), -1);
        Check.sameLong("suited() of a new object", script.suited(), 0);
        Check.sameLong("faults() of a new object", script.faults(), 0);
        Check.sameLong("improve() of a new object", script.improve(), 0);
        Check.same("meanPrice() of a new object", script.meanPrice(), 0);
        Check.sameLong("digest() of a new object", script.digest(), 9491824355680889L);
        Check.isThrown("count(-1)", Check.OUT_OF_BOUNDS, () -> script.count(-1));
        Check.isThrown("count(8)", Check.OUT_OF_BOUNDS, () -> script.count(8));
        Check.isThrown("food(0, 0)", Check.OUT_OF_BOUNDS, () -> script.food(0, 0));
        Check.isThrown("dish(0, 0)", Check.OUT_OF_BOUNDS, () -> script.dish(0, 0));
        Check.isThrown("grams(0, 0)", Check.OUT_OF_BOUNDS, () -> script.grams(0, 0));
        Check.isThrown("choice(0, true)", Check.OUT_OF_BOUNDS, () -> script.choice(0, true));
        Check.isThrown("rule(0, 0)", Check.OUT_OF_BOUNDS, () -> script.rule(0, 0));
        Check.isThrown("plan(1)", Check.BAD_STATE, () -> script.plan(1));
        Check.isThrown("plan(0)", Check.BAD_ARGUMENT, () -> script.plan(0));
        Check.isThrown("plan(15)", Check.BAD_ARGUMENT, () -> script.plan(15));
        Check.isThrown("at(0, 0)", Check.OUT_OF_BOUNDS, () -> script.at(0, 0));
        Check.isThrown("set(0, 0, -1)", Check.OUT_OF_BOUNDS, () -> script.set(0, 0, -1));
        Check.isThrown("faultsOf(0)", Check.OUT_OF_BOUNDS, () -> script.faultsOf(0));
        Check.isThrown("exchange(0, 0)", Check.OUT_OF_BOUNDS, () -> script.exchange(0, 0));
        Check.isThrown("day(0, true)", Check.OUT_OF_BOUNDS, () -> script.day(0, true));
        Check.isThrown("times(0)", Check.OUT_OF_BOUNDS, () -> script.times(0));
        Check.isThrown("buy(0, 0)", Check.OUT_OF_BOUNDS, () -> script.buy(0, 0));
    }

    private static void feeding() {
        MenuScript script = new MenuScript();
        Check.sameLong("the first feed", script.feed(1, 2, 3, 4, 5), 20);
        Check.sameLong("the second feed", script.feed(-1, -2, -3, -4, -5), 40);
        Check.sameLong("count(7)", script.count(7), 40);
    }

    /** A byte of the tape is seen by where the first error stands: none begins a token but the letter ahead. */
    private static void bytesOfNumbers() {
        int blank = 0x20202020;
        for (int wrongByte = 0; wrongByte < 20; wrongByte++) {
            int[] numbers = {blank, blank, blank, blank, blank};
            numbers[wrongByte / 4] ^= 0x80 << 24 - wrongByte % 4 * 8;
            MenuScript script = new MenuScript();
            script.feed(blank, blank, blank, blank, blank);
            script.feed(numbers[0], numbers[1], numbers[2], numbers[3], numbers[4]);
            Check.sameLong("test() of a byte 160", script.test(), 1);
            Check.sameLong("errorAt() of a byte 160", script.errorAt(), 20 + wrongByte);
        }
        MenuScript script = Check.compiled("food ab 7;dish d for 1:1 ab;meal m:d;");
        script.feed(Check.four("not ", 0), Check.four("(d o", 0), Check.four("r   ", 0), Check.four("not ", 0),
            Check.four("d)  ", 0));
        Check.sameLong("test() of five numbers", script.test(), 0);
    }

    private static void fullTape() {
        MenuScript script = new MenuScript();
        for (int i = 1; i <= 75; i++) {
            Check.sameLong("feed " + i, script.feed(0, 0, 0, 0, 0), 20 * i);
        }
        Check.isThrown("feed 76", Check.BAD_STATE, () -> script.feed(0, 0, 0, 0, 0));
        Check.sameLong("count(7) behind feed 76", script.count(7), 1500);
        Check.sameLong("trim(1481)", script.trim(1481), 1481);
        Check.isThrown("feed behind 1481", Check.BAD_STATE, () -> script.feed(0, 0, 0, 0, 0));
        Check.sameLong("count(7) behind 1481", script.count(7), 1481);
        Check.sameLong("trim(1480)", script.trim(1480), 1480);
        Check.sameLong("feed behind 1480", script.feed(0, 0, 0, 0, 0), 1500);
        Check.sameLong("trim(1500)", script.trim(1500), 1500);
        Check.sameLong("test() of a full tape", script.test(), 1);
        Check.sameLong("errorAt() of a full tape", script.errorAt(), 0);
        Check.sameLong("count(7) behind test()", script.count(7), 0);

        String first = "food a 1;dish d for 1:1 a;meal m:d;";
        Check.compileError(1, Check.repeat(1499, " ", "") + "^d");
        Check.compileError(1, first + Check.repeat(1500 - first.length() - 1, "\n", "") + "^;");
        Check.compiled(first + Check.repeat(1500 - first.length(), "\n", ""));
        Check.compileError(1, Check.repeat(1500, " ", "") + "^");
        Check.compileError(1, "^" + Check.repeat(1500, ";", ""));
        Check.compileError(1, "food a 1;food ^" + Check.repeat(1485, "x", ""));
        Check.compileError(1, "food a ^" + Check.repeat(1493, "1", ""));
    }

    /** Twenty bytes have room behind 1480 bytes, and behind no byte more. */
    private static void lengthsWithRoom() {
        for (int length = 1441; length <= 1500; length++) {
            MenuScript script = new MenuScript();
            for (int i = 0; i < 75; i++) {
                script.feed(-1, -1, -1, -1, -1);
            }
            script.trim(length);
            if (length <= 1480) {
                Check.sameLong("feed behind " + length, script.feed(0, 0, 0, 0, 0), length + 20);
            } else {
                Check.isThrown("feed behind " + length, Check.BAD_STATE, () -> script.feed(0, 0, 0, 0, 0));
                Check.sameLong("count(7) behind " + length, script.count(7), length);
            }
        }
    }

    /** What is trimmed is gone: other bytes stand there when the tape is fed again. */
    private static void everyLength() {
        String program = "food a 1;dish d for 1:1 a;meal m:d;";
        for (int kept = 0; kept <= program.length(); kept++) {
            MenuScript script = new MenuScript();
            Check.write(script, program.substring(0, kept) + Check.repeat(program.length() - kept + 20, "#", ""));
            Check.sameLong("trim(" + kept + ")", script.trim(kept), kept);
            Check.sameLong("count(7) behind trim(" + kept + ")", script.count(7), kept);
            int oneMore = kept + 1;
            Check.isThrown("trim(" + oneMore + ")", Check.BAD_ARGUMENT, () -> script.trim(oneMore));
            Check.write(script, program.substring(kept));
            Check.sameLong("compile() behind trim(" + kept + ")", script.compile(), 0);
        }
    }

    private static void trimming() {
        MenuScript script = new MenuScript();
        Check.sameLong("trim(0) of an empty tape", script.trim(0), 0);
        Check.isThrown("trim(1) of an empty tape", Check.BAD_ARGUMENT, () -> script.trim(1));
        script.feed(Check.four("food", 0), 0, 0, 0, 0);
        Check.isThrown("trim(21)", Check.BAD_ARGUMENT, () -> script.trim(21));
        Check.isThrown("trim(-1)", Check.BAD_ARGUMENT, () -> script.trim(-1));
        Check.isThrown("trim(least)", Check.BAD_ARGUMENT, () -> script.trim(Integer.MIN_VALUE));
        Check.sameLong("count(7)", script.count(7), 20);
        Check.sameLong("trim(20)", script.trim(20), 20);
        Check.sameLong("trim(4)", script.trim(4), 4);
        Check.sameLong("count(7) behind trim(4)", script.count(7), 4);
        Check.isThrown("trim(5)", Check.BAD_ARGUMENT, () -> script.trim(5));
        Check.write(script, " a 1;dish d for 1:1 a;meal m:d;");
        Check.sameLong("compile() behind trim", script.compile(), 0);
        Check.sameLong("count(7) behind compile", script.count(7), 0);
        Check.isThrown("trim(1) behind compile", Check.BAD_ARGUMENT, () -> script.trim(1));
    }

    /** A word or number ends where the tape ends, whatever stood behind it ahead of trim, compile or test. */
    private static void trimmedTokens() {
        String first = "food a 1;dish d for 1:1 a is t;meal m:d;";
        MenuScript script = Check.compiled(first);
        Check.write(script, "not ttttttttttttttt");
        script.trim(5);
        Check.sameLong("test() of not t", script.test(), 0);
        Check.sameLong("suited() of not t", script.suited(), 0);
        Check.write(script, "t");
        Check.sameLong("test() of t", script.test(), 0);
        Check.sameLong("suited() of t", script.suited(), 1);
        script.feed(Check.four("dddd", 0), 0, 0, 0, 0);
        script.trim(1);
        Check.sameLong("test() of d", script.test(), 0);
        Check.sameLong("test() of an empty tape", script.test(), 1);
        Check.sameLong("errorAt() of an empty tape", script.errorAt(), 0);
        Check.write(script, "food a 123456789");
        script.trim(11);
        Check.sameLong("compile() without an end", script.compile(), 1);
        Check.sameLong("errorAt() behind four digits", script.errorAt(), 11);
        Check.write(script, first);
        script.trim(first.length() - 1);
        Check.sameLong("compile() without a semicolon", script.compile(), 1);
        Check.sameLong("errorAt() without a semicolon", script.errorAt(), first.length() - 1);
        Check.sameLong("compile() of an empty tape", script.compile(), 1);
        Check.sameLong("errorAt() behind a tape", script.errorAt(), 0);
    }
}
