/** Promise 25: the digest, from what the other calls tell, and at numbers that stand in the document's tests. */
public final class DigestTest {
    private static final String PROGRAM = "food a 100 is x; food b 900 price 999; dish d for 1: 1000 b is y; dish e for 2: "
        + "100 a, 1 of d; dish f for 3: 7 a is z,x; meal m: x, (y or z) and not (e); rule energy 300 to 9000; "
        + "rule apart 3 x; rule most 2 y in 2;";

    public static void main(String[] args) {
        MenuScript script = new MenuScript();
        Check.sameLong("digest() of a new object", script.digest(), 9491824355680889L);
        sameAsTold(script);
        Check.write(script, PROGRAM);
        sameAsTold(script);
        Check.sameLong("compile()", script.compile(), 0);
        sameAsTold(script);
        script.plan(14);
        sameAsTold(script);
        script.improve();
        script.improve();
        script.set(0, 0, -1);
        sameAsTold(script);
        Check.sameLong("digest()", script.digest(), 9099564180176262059L);
        Check.sameLong("digest() again", script.digest(), 9099564180176262059L);
        script.feed(1, 2, 3, 4, 5);
        sameAsTold(script);
        script.trim(0);
        Check.write(script, PROGRAM + "meal n: x; rule apart 2 f; meal o: not x, y;" + "rule least 3 z in 4;");
        Check.sameLong("compile() of three meals", script.compile(), 0);
        sameAsTold(script);
        script.plan(7);
        sameAsTold(script);
        script.feed(1, 2, 3, 4, 5);
        script.compile();
        Check.sameLong("digest() behind an error", script.digest(), 9491824355680889L);
        Check.end("DigestTest");
    }

    private static void sameAsTold(MenuScript script) {
        long d = 359;
        for (int what = 0; what < 8; what++) {
            d = d * 31 + script.count(what);
        }
        for (int i = 0; i < script.count(0) * 3; i++) {
            d = d * 31 + script.food(i / 3, i % 3);
        }
        for (int i = 0; i < script.count(1) * 5; i++) {
            d = d * 31 + script.dish(i / 5, i % 5);
        }
        for (int i = 0; i < script.count(3) * 2; i++) {
            d = d * 31 + script.choice(i / 2, i % 2 == 0);
        }
        for (int i = 0; i < script.count(4) * 4; i++) {
            d = d * 31 + script.rule(i / 4, i % 4);
        }
        for (int day = 0; day < script.count(6); day++) {
            for (int choice = 0; choice < script.count(3); choice++) {
                d = d * 31 + script.at(day, choice);
            }
        }
        d = d * 31 + script.faults();
        Check.sameLong("digest()", script.digest(), d);
    }
}
