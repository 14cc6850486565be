import java.util.NoSuchElementException;

/** Promise 6: evaluate. */
final class P06EvaluateTest {
    public static void main(String[] args) {
        arithmetic();
        choicesAndPairs();
        functions();
        threeDeep();
        manyTimes();
        refusals();
        Expect.end();
    }

    private static void arithmetic() {
        TypedMill mill = new TypedMill();
        int most = Build.constant(mill, Integer.MAX_VALUE);
        int least = Build.constant(mill, Integer.MIN_VALUE);
        int one = Build.constant(mill, 1);
        int seven = Build.constant(mill, 7);
        int big = Build.constant(mill, 123456789);
        Expect.due("a CONSTANT", mill.evaluate(least), Integer.MIN_VALUE);
        Expect.due("7 + 1", mill.evaluate(Build.plus(mill, seven, one)), 8);
        Expect.due("7 - 1", mill.evaluate(Build.minus(mill, seven, one)), 6);
        Expect.due("1 - 7", mill.evaluate(Build.minus(mill, one, seven)), -6);
        Expect.due("7 * 7", mill.evaluate(Build.times(mill, seven, seven)), 49);
        Expect.due("+ wraps", mill.evaluate(Build.plus(mill, most, one)), Integer.MIN_VALUE);
        Expect.due("- wraps", mill.evaluate(Build.minus(mill, least, one)), Integer.MAX_VALUE);
        Expect.due("* wraps", mill.evaluate(Build.times(mill, big, big)), 123456789 * 123456789);
    }

    private static void choicesAndPairs() {
        TypedMill mill = new TypedMill();
        int zero = Build.constant(mill, 0);
        int less = Build.constant(mill, -1);
        int five = Build.constant(mill, 5);
        Expect.due("0 takes y", mill.evaluate(Build.choice(mill, zero, five, less)), 5);
        Expect.due("-1 takes z", mill.evaluate(Build.choice(mill, less, zero, five)), 5);
        int pair = Build.pair(mill, five, less);
        Expect.due("FIRST", mill.evaluate(Build.first(mill, pair)), 5);
        Expect.due("SECOND", mill.evaluate(Build.second(mill, pair)), -1);
        int chosen = Build.choice(mill, zero, pair, Build.pair(mill, less, five));
        Expect.due("SECOND of a CHOICE", mill.evaluate(Build.second(mill, chosen)), -1);
        int untaken = Build.choice(mill, zero, five, Build.endless(mill));
        Expect.due("what is not chosen is not evaluated", mill.evaluate(untaken), 5);
    }

    private static void functions() {
        TypedMill mill = new TypedMill();
        int plain = Build.functionType(mill, 0, 0);
        int makes = Build.functionType(mill, 0, plain);
        int outside = Build.minus(mill, Build.variable(mill, 2), Build.variable(mill, 0));
        int curried = Build.lambda(mill, makes, Build.lambda(mill, plain, outside));
        int ten = Build.constant(mill, 10);
        int three = Build.constant(mill, 3);
        int program = Build.call(mill, Build.call(mill, curried, ten), three);
        Expect.due("a function keeps what was bound where it was met", mill.evaluate(program), 7);

        int body = Build.call(mill, Build.call(mill, Build.variable(mill, 3), Build.constant(mill, 100)),
                Build.variable(mill, 0));
        int step = Build.choice(mill, Build.minus(mill, Build.variable(mill, 2), Build.constant(mill, 100)),
                outside, body);
        int again = Build.lambda(mill, makes, Build.lambda(mill, plain, step));
        Expect.due("a function of further out calls itself",
                mill.evaluate(Build.call(mill, Build.call(mill, again, ten), three)), 97);

        int twice = Build.functionType(mill, plain, 0);
        int applied = Build.call(mill, Build.variable(mill, 0), Build.call(mill, Build.variable(mill, 0), ten));
        int square = Build.lambda(mill, plain, Build.times(mill, Build.variable(mill, 0), Build.variable(mill, 0)));
        int higher = Build.call(mill, Build.lambda(mill, twice, applied), square);
        Expect.due("a function as an argument", mill.evaluate(higher), 10000);
    }

    private static void threeDeep() {
        TypedMill mill = new TypedMill();
        int one = Build.functionType(mill, 0, 0);
        int two = Build.functionType(mill, 0, one);
        int three = Build.functionType(mill, 0, two);
        int[] want = {3, -1, 2, -1, 1};
        for (int a = 0; a < want.length; a += 2) {
            int inner = Build.lambda(mill, two, Build.lambda(mill, one, Build.variable(mill, a)));
            int called = Build.call(mill, Build.lambda(mill, three, inner), Build.constant(mill, 1));
            int again = Build.call(mill, called, Build.constant(mill, 2));
            int program = Build.call(mill, again, Build.constant(mill, 3));
            Expect.due("VARIABLE " + a + " in three LAMBDAs", mill.evaluate(program), want[a]);
        }
    }

    /** As many calls as an object is used for: none leaves anything behind for the next. */
    private static void manyTimes() {
        TypedMill mill = new TypedMill();
        int x = Build.variable(mill, 0);
        int square = Build.lambda(mill, Build.functionType(mill, 0, 0), Build.times(mill, x, x));
        int sum = Build.sum(mill, 9, Build.call(mill, square, Build.constant(mill, 5)));
        int endless = Build.endless(mill);
        for (int k = 0; k < 240; k++) {
            Expect.due("evaluate for the " + k + "th time", mill.evaluate(sum), 225);
            Expect.refused("endless for the " + k + "th time", IllegalStateException.class,
                    () -> mill.evaluate(endless));
        }
    }

    private static void refusals() {
        TypedMill mill = new TypedMill();
        int one = Build.constant(mill, 1);
        int pair = Build.pair(mill, one, one);
        int free = Build.variable(mill, 0);
        int function = Build.lambda(mill, Build.functionType(mill, 0, 0), free);
        int endless = Build.endless(mill);
        int[] absent = {-1, endless + 1, 40, Integer.MIN_VALUE, Integer.MAX_VALUE};
        for (int e : absent) {
            Expect.refused("evaluate(" + e + ")", NoSuchElementException.class, () -> mill.evaluate(e));
        }
        int[] others = {pair, free, function, Build.first(mill, one), Build.plus(mill, one, free)};
        for (int e : others) {
            Expect.refused("evaluate(" + e + ")", IllegalArgumentException.class, () -> mill.evaluate(e));
        }
        Expect.refused("an endless one", IllegalStateException.class, () -> mill.evaluate(endless));
        int parts = Build.plus(mill, endless, one);
        Expect.refused("an endless part", IllegalStateException.class, () -> mill.evaluate(parts));
        int within = Build.first(mill, Build.pair(mill, one, endless));
        Expect.refused("an endless part of a pair", IllegalStateException.class, () -> mill.evaluate(within));
        Expect.due("others go on", mill.evaluate(one), 1);
    }
}
