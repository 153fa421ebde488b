/** What the tests share: feeding texts, comparing answers, and counting what is wrong. */
final class Check {
    interface Call {
        double answer();
    }

    static final String OUT_OF_BOUNDS = "IndexOutOfBoundsException";
    static final String BAD_ARGUMENT = "IllegalArgumentException";
    static final String BAD_STATE = "IllegalStateException";

    private static int looks = 0;
    private static int wrong = 0;

    private Check() {
    }

    static void same(String what, double got, double due) {
        looks++;
        if (got != due) {
            tellWrong(what + " answered " + got + ", due is " + due);
        }
    }

    /** Apart from the doubles, for these do not tell all longs from one another. */
    static void sameLong(String what, long got, long due) {
        looks++;
        if (got != due) {
            tellWrong(what + " answered " + got + ", due is " + due);
        }
    }

    static void sameText(String what, String got, String due) {
        looks++;
        if (!got.equals(due)) {
            tellWrong(what + " answered " + got + ", due is " + due);
        }
    }

    static void isThrown(String what, String exception, Call call) {
        sameText(what, outcome(call), "throws " + exception);
    }

    static String outcome(Call call) {
        try {
            return String.valueOf(call.answer());
        } catch (RuntimeException thrown) {
            return "throws " + thrown.getClass().getSimpleName();
        }
    }

    static void tellWrong(String text) {
        wrong++;
        if (wrong <= 20) {
            System.out.println(text);
        }
    }

    static void end(String test) {
        System.out.println(test + ": " + looks + " looks, " + wrong + " wrong");
        if (wrong > 0) {
            System.exit(1);
        }
    }

    /** Appends a text of characters 0 to 255 to the tape, without the letters that fill up the last twenty bytes. */
    static void write(MenuScript script, String text) {
        int before = script.count(7);
        for (int start = 0; start < text.length(); start += 20) {
            script.feed(four(text, start), four(text, start + 4), four(text, start + 8), four(text, start + 12),
                four(text, start + 16));
        }
        script.trim(before + text.length());
    }

    /** Letters fill it up, for a word at the end of a trimmed tape must not go on with what was there. */
    static int four(String text, int start) {
        int number = 0;
        for (int i = start; i < start + 4; i++) {
            number = number << 8 | (i < text.length() ? text.charAt(i) : 'x');
        }
        return number;
    }

    static MenuScript compiled(String program) {
        MenuScript script = new MenuScript();
        write(script, program);
        sameLong("compile() of " + program, script.compile(), 0);
        sameLong("errorAt() of " + program, script.errorAt(), -1);
        return script;
    }

    /** The mark ^ in the text tells where the error is due; it is not fed. */
    static void compileError(int error, String marked) {
        lookAtError(error, marked);
        // Of several errors the first is told, so that wrong items behind it make no difference.
        String wrongItems = "food zz 9999;dish zz for 0:0 zz;meal zz:zz;rule apart 0 zz;rule most 9 zz in 0;";
        if (error >= 2 && error <= 5 && marked.length() + wrongItems.length() <= 1500) {
            lookAtError(error, marked + wrongItems);
        }
    }

    private static void lookAtError(int error, String marked) {
        int position = marked.indexOf('^');
        String program = marked.replace("^", "");
        MenuScript script = new MenuScript();
        write(script, program);
        sameLong("compile() of " + marked, script.compile(), error);
        sameLong("errorAt() of " + marked, script.errorAt(), position);
        for (int what = 0; what < 8; what++) {
            sameLong("count(" + what + ") behind " + marked, script.count(what), 0);
        }
    }

    static void testError(MenuScript script, int error, String marked) {
        int position = marked.indexOf('^');
        write(script, marked.replace("^", ""));
        sameLong("test() of " + marked, script.test(), error);
        sameLong("errorAt() of " + marked, script.errorAt(), position);
        sameLong("suited() of " + marked, script.suited(), 0);
        sameLong("count(7) behind " + marked, script.count(7), 0);
    }

    static void suits(MenuScript script, int set, String choice) {
        write(script, choice);
        sameLong("test() of " + choice, script.test(), 0);
        sameLong("errorAt() of " + choice, script.errorAt(), -1);
        sameLong("suited() of " + choice, script.suited(), set);
        sameLong("count(7) behind " + choice, script.count(7), 0);
    }

    static String repeat(int times, String text, String between) {
        StringBuilder all = new StringBuilder();
        for (int i = 0; i < times; i++) {
            all.append(i == 0 ? "" : between).append(text);
        }
        return all.toString();
    }

    /** A text for each letter from a on, with the letter in the place of the mark @. */
    static String series(int times, String text, String between) {
        StringBuilder all = new StringBuilder();
        for (int i = 0; i < times; i++) {
            all.append(i == 0 ? "" : between).append(text.replace('@', (char) ('a' + i)));
        }
        return all.toString();
    }
}
