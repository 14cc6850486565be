import java.util.function.ToIntFunction;

/** The boundary cases of typing and evaluating: what is bound, what is chosen, depth and OVER (5, 6 and 7). */
final class TermsEvaluateTest {
    private static final String OVER = "throws.IllegalStateException";

    public static void main(String[] args) {
        howManyAreBound();
        typesAndExpressionsAtTheEnd();
        choosing();
        greatestDepth();
        depthsBelow();
        mostBodies();
        stepsOfTheLatest();
        overChangesStepsAlone();
        fiveHundredAndTwelveCalls();
        Expect.end();
    }

    /** In so many LAMBDAs twice as many are bound, the outermost function last of all. */
    private static void howManyAreBound() {
        for (int lambdas = 0; lambdas <= 7; lambdas++) {
            for (int a = 0; a <= 20; a++) {
                boolean argument = a % 2 == 0 && a < 2 * lambdas;
                Expect.yes("VARIABLE " + a + " in " + lambdas, isNumberIn(lambdas, a, false) == argument);
                if (lambdas <= 5) {
                    boolean bound = a < 2 * lambdas;
                    Expect.yes("a type of VARIABLE " + a + " in " + lambdas, isNumberIn(lambdas, a, true) == bound);
                }
            }
        }
    }

    /** Whether the VARIABLE (or the first of a NUMBER and it, which is one if it has any type) is a NUMBER. */
    private static boolean isNumberIn(int lambdas, int a, boolean behind) {
        TypedMill mill = new TypedMill();
        int body = Build.variable(mill, a);
        if (behind) {
            body = Build.first(mill, Build.pair(mill, Build.constant(mill, 1), body));
        }
        int type = 0;
        for (int k = 0; k < lambdas; k++) {
            type = Build.functionType(mill, 0, type);
            body = Build.lambda(mill, type, body);
        }
        return mill.is(body, type);
    }

    private static void typesAndExpressionsAtTheEnd() {
        TypedMill mill = new TypedMill();
        int pair = Build.pairType(mill, 0, 0);
        int one = Build.constant(mill, 1);
        int two = Build.pair(mill, one, one);
        Expect.yes("the last expression, the last type", mill.is(two, pair));
        Expect.yes("no expression behind the last", !mill.is(two + 1, pair) && !mill.is(two + 1, 0));
        Expect.yes("no expression ahead of the first", !mill.is(-1, 0));
        Expect.yes("no type behind the last", !mill.is(two, pair + 1));
        int three = Build.pair(mill, two, one);
        Expect.yes("no type for it yet", !mill.is(three, pair + 1));
        Expect.due("the type", Build.pairType(mill, pair, 0), pair + 1);
        Expect.yes("now there is one", mill.is(three, pair + 1));
        Expect.yes("no type is none", !mill.is(Build.first(mill, one), -1));
    }

    private static void choosing() {
        int[][] sums = {{0, 0}, {1, 0}, {-1, 0}, {Integer.MAX_VALUE, 0}, {Integer.MIN_VALUE, 0},
            {Integer.MIN_VALUE, Integer.MIN_VALUE}, {Integer.MAX_VALUE, 1}, {5, -5}};
        int[] want = {10, 20, 20, 20, 20, 10, 20, 10};
        for (int k = 0; k < want.length; k++) {
            TypedMill mill = new TypedMill();
            int x = Build.plus(mill, Build.constant(mill, sums[k][0]), Build.constant(mill, sums[k][1]));
            int program = Build.choice(mill, x, Build.constant(mill, 10), Build.constant(mill, 20));
            Expect.due("CHOICE by " + sums[k][0] + " + " + sums[k][1], mill.evaluate(program), want[k]);
            mill.compile(program);
            mill.run(1000);
            Expect.due("the same, compiled", mill.register(2, 1), want[k]);
        }
    }

    /**
     * Counts down and then evaluates the last expression, with so many sums round it all. The last expression is
     * at depth 3 + sums + 2 * from, and 5 + sums + 7 * from steps are ahead of it.
     */
    private static void count(String what, int from, int sums, ToIntFunction<TypedMill> last, int steps, String want) {
        TypedMill mill = new TypedMill();
        int program = Build.countDown(mill, from, last.applyAsInt(mill));
        for (int k = 0; k < sums; k++) {
            program = Build.plus(mill, program, Build.constant(mill, 0));
        }
        int counted = program;
        Expect.due(what, Expect.answer(() -> mill.evaluate(counted)), want);
        Expect.due("steps of " + what, mill.steps(), steps);
        Expect.due("steps() again", mill.steps(), steps);
    }

    /** Depths 59, 60 and 61 of the last expression, of the parts of the minus ahead of it, and of a CHOICE's x. */
    private static void greatestDepth() {
        ToIntFunction<TypedMill> zero = mill -> Build.constant(mill, 42);
        count("depth 59", 28, 0, zero, 5 + 7 * 28 + 1, "42");
        count("depth 60", 28, 1, zero, 6 + 7 * 28 + 1 + 1, "42");
        count("depth 61 of the minus's parts", 28, 2, zero, 2 + 3 + 7 * 27 + 5, OVER);
        count("depth 61 of a CHOICE's x", 29, 0, zero, 3 + 7 * 28 + 5, OVER);
        count("depth 58", 27, 1, zero, 6 + 7 * 27 + 1 + 1, "42");
    }

    /** For each kind what is begun ahead of the first part that would be too deep. */
    private static void depthsBelow() {
        for (int kind = 2; kind <= 4; kind++) {
            int k = kind;
            oneBelow("the parts of kind " + kind, m -> m.make(k, 0, one(m), one(m), 0), 3);
            twoBelow("kind " + kind + ", below x", m -> m.make(k, 0, sum(m), one(m), 0), 5, 2);
            twoBelow("kind " + kind + ", below y", m -> m.make(k, 0, one(m), sum(m), 0), 5, 3);
        }
        oneBelow("the parts of CHOICE", m -> Build.choice(m, one(m), one(m), one(m)), 3);
        twoBelow("CHOICE, below x", m -> Build.choice(m, sum(m), one(m), one(m)), 5, 2);
        twoBelow("CHOICE, below y", m -> Build.choice(m, Build.constant(m, 0), sum(m), one(m)), 5, 3);
        twoBelow("CHOICE, below z", m -> Build.choice(m, one(m), one(m), sum(m)), 5, 3);
        oneBelow("CHOICE, below what is not chosen", m -> Build.choice(m, one(m), sum(m), one(m)), 3);
        twoBelow("FIRST of a PAIR", m -> Build.first(m, Build.pair(m, one(m), one(m))), 4, 2);
        twoBelow("SECOND of a PAIR", m -> Build.second(m, Build.pair(m, one(m), one(m))), 4, 2);
        oneBelow("CALL", m -> Build.call(m, same(m), one(m)), 4);
        twoBelow("CALL, below y", m -> Build.call(m, same(m), sum(m)), 6, 3);
        twoBelow("CALL, below the body", m -> Build.call(m, lambda(m, sum(m)), one(m)), 6, 4);
    }

    private static int one(TypedMill mill) {
        return Build.constant(mill, 1);
    }

    private static int sum(TypedMill mill) {
        int one = one(mill);
        return Build.plus(mill, one, one);
    }

    private static int lambda(TypedMill mill, int body) {
        return Build.lambda(mill, Build.functionType(mill, 0, 0), body);
    }

    private static int same(TypedMill mill) {
        return lambda(mill, Build.variable(mill, 0));
    }

    /** It takes so many steps at depth 59, with its parts at 60; at 60 none of its parts is begun. */
    private static void oneBelow(String what, ToIntFunction<TypedMill> last, int steps) {
        TypedMill alone = new TypedMill();
        String answer = Integer.toString(alone.evaluate(last.applyAsInt(alone)));
        count(what + " at 60", 28, 0, last, 5 + 7 * 28 + steps, answer);
        count(what + " at 61", 28, 1, last, 6 + 7 * 28 + 1, OVER);
    }

    /** It takes so many steps at depth 58, with parts of its parts at 60; at 59 so many are done ahead of them. */
    private static void twoBelow(String what, ToIntFunction<TypedMill> last, int steps, int done) {
        TypedMill alone = new TypedMill();
        String answer = Integer.toString(alone.evaluate(last.applyAsInt(alone)));
        count(what + " at 60", 27, 1, last, 6 + 7 * 27 + steps + 1, answer);
        count(what + " at 61", 28, 0, last, 5 + 7 * 28 + done, OVER);
    }

    /**
     * A function that calls itself for ever, with what two others give in turn: 9 steps and 3 bodies each time,
     * and one deeper. The steps are over ahead of the depth, at the 166th body.
     */
    private static void mostBodies() {
        TypedMill mill = new TypedMill();
        int same = same(mill);
        int twice = Build.call(mill, same, Build.call(mill, same, Build.variable(mill, 0)));
        int again = lambda(mill, Build.call(mill, Build.variable(mill, 1), twice));
        int program = Build.call(mill, again, one(mill));
        Expect.due("166 bodies", Expect.answer(() -> mill.evaluate(program)), OVER);
        Expect.due("steps of it", mill.steps(), 500);
    }

    private static void stepsOfTheLatest() {
        TypedMill mill = new TypedMill();
        int sum = sum(mill);
        int pair = Build.pair(mill, sum, sum);
        int endless = Build.endless(mill);
        Expect.due("before any", mill.steps(), 0);
        Expect.due("no expression", Expect.answer(() -> mill.evaluate(99)), "throws.NoSuchElementException");
        Expect.due("no program", Expect.answer(() -> mill.evaluate(pair)), "throws.IllegalArgumentException");
        Expect.due("still before any", mill.steps(), 0);
        Expect.due("an endless one", Expect.answer(() -> mill.evaluate(endless)), OVER);
        // The CALLs are at depth 1, 2, .. 59 with 3 steps each, and one is begun at 60.
        Expect.due("its steps", mill.steps(), 59 * 3 + 1);
        Expect.due("no expression", Expect.answer(() -> mill.evaluate(-1)), "throws.NoSuchElementException");
        Expect.due("no program", Expect.answer(() -> mill.evaluate(pair)), "throws.IllegalArgumentException");
        int both = Build.pair(mill, sum, endless);
        Expect.due("no program, and endless", Expect.answer(() -> mill.evaluate(both)),
                "throws.IllegalArgumentException");
        Expect.due("steps of the one that was over", mill.steps(), 59 * 3 + 1);
        Expect.due("one that is not over", mill.evaluate(sum), 2);
        Expect.due("its steps", mill.steps(), 3);
        mill.compile(sum);
        mill.run(1000);
        mill.block(-1, -1, -1);
        mill.clear();
        mill.is(sum, 0);
        Expect.due("no other call counts", mill.steps(), 3);
    }

    private static void overChangesStepsAlone() {
        Things things = new Things(new TypedMill());
        Tells tells = new Tells(mill -> {
            Expect.due("the same things", new Things(mill).endless, things.endless);
            mill.compile(things.program);
            mill.run(7);
            mill.evaluate(things.program);
        });
        tells.stay("one that is over, and one that is not", mill -> {
            Expect.due("endless", Expect.answer(() -> mill.evaluate(things.endless)), OVER);
            Expect.due("its steps", mill.steps(), 59 * 3 + 1);
            mill.evaluate(things.program);
        });
    }

    /** The 512th call is as good as the first. */
    private static void fiveHundredAndTwelveCalls() {
        TypedMill mill = new TypedMill();
        int function = Build.functionType(mill, 0, 0);
        int x = Build.variable(mill, 0);
        int program = Build.call(mill, Build.lambda(mill, function, Build.times(mill, x, x)), Build.constant(mill, 9));
        for (int calls = 6; calls < 510; calls += 6) {
            Expect.due("evaluate()", mill.evaluate(program), 81);
            Expect.due("compile()", mill.compile(program), 30);
            Expect.due("check()", mill.check(), -1);
            Expect.due("run()", mill.run(1000), 30);
            Expect.due("register()", mill.register(2, 1), 81);
            mill.clear();
        }
        Expect.due("call 511", mill.compile(program), 30);
        Expect.due("call 512", mill.run(1000), 30);
    }
}
