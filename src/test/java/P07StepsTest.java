import java.util.Arrays;
import java.util.NoSuchElementException;

/** Promise 7: steps. */
final class P07StepsTest {
    public static void main(String[] args) {
        countsEachKind();
        greatestDepth();
        depthOfParts();
        mostSteps();
        refusalsLeaveIt();
        Expect.end();
    }

    private static void steps(TypedMill mill, String what, int expression, int want) {
        mill.evaluate(expression);
        Expect.due("steps of " + what, mill.steps(), want);
    }

    private static void countsEachKind() {
        TypedMill mill = new TypedMill();
        int one = Build.constant(mill, 1);
        int sum = Build.plus(mill, one, one);
        steps(mill, "a CONSTANT", one, 1);
        steps(mill, "+", sum, 3);
        steps(mill, "-", Build.minus(mill, sum, one), 5);
        steps(mill, "*, with one part twice", Build.times(mill, sum, sum), 7);
        steps(mill, "CHOICE of y", Build.choice(mill, Build.constant(mill, 0), one, sum), 3);
        steps(mill, "CHOICE of z", Build.choice(mill, one, one, sum), 5);
        steps(mill, "FIRST of a PAIR", Build.first(mill, Build.pair(mill, one, sum)), 6);
        steps(mill, "SECOND of a PAIR", Build.second(mill, Build.pair(mill, one, sum)), 6);
        int function = Build.lambda(mill, Build.functionType(mill, 0, 0), Build.variable(mill, 0));
        steps(mill, "CALL", Build.call(mill, function, sum), 6);
    }

    private static int countDown(TypedMill mill, int from) {
        return Build.countDown(mill, from, Build.variable(mill, 0));
    }

    /**
     * The CALL is at depth 1, its CHOICE at 2, the CALL in that at 3, the next CHOICE at 4: the CHOICE
     * behind k calls is at 2 + 2 k, and the parts of the minus in it at 5 + 2 k: 59 for k = 27. Each
     * CHOICE that goes on takes 7 steps, the last one 3.
     */
    private static void greatestDepth() {
        TypedMill mill = new TypedMill();
        steps(mill, "counting down from 0", countDown(mill, 0), 3 + 3);
        TypedMill last = new TypedMill();
        steps(last, "counting down from 28", countDown(last, 28), 3 + 28 * 7 + 3);
        TypedMill over = new TypedMill();
        int deep = countDown(over, 29);
        Expect.refused("counting down from 29", IllegalStateException.class, () -> over.evaluate(deep));
        // For k = 28 there is room for the CHOICE, its x, the CALL, its x and the minus at depth 60.
        Expect.due("steps of it", over.steps(), 3 + 28 * 7 + 5);
    }

    /**
     * A function that calls itself for ever in a part of its body. The body is at depth 2, 4, .. 60, and the
     * CALL in it one deeper; each round takes the body's step, those of parts ahead of the CALL, and the
     * CALL's own 3.
     */
    private static void depthOfParts() {
        for (int kind = 2; kind <= 5; kind++) {
            depthOfPart(kind, 0, 3 + 29 * 4 + 1);
            depthOfPart(kind, 1, 3 + 29 * 5 + 1);
        }
        depthOfPart(5, 2, 3 + 29 * 5 + 1);
        depthOfPart(7, 1, 3 + 29 * 5 + 1);
        // With a PAIR round the CALL each round is 3 deep: bodies at 2, 5, .. 59, the PAIR behind at 60.
        depthOfPart(9, 0, 3 + 19 * 5 + 2);
        depthOfPart(10, 0, 3 + 19 * 5 + 2);
    }

    private static void depthOfPart(int kind, int place, int want) {
        TypedMill mill = new TypedMill();
        int x = Build.variable(mill, 0);
        int again = Build.call(mill, Build.variable(mill, 1), x);
        int part = kind >= 9 ? Build.pair(mill, again, again) : again;
        int other = kind == 7 ? Build.variable(mill, 1) : Build.constant(mill, place == 1 ? 0 : 1);
        int body = mill.make(kind, 0, place == 0 ? part : other, place == 1 ? part : x, place == 2 ? part : x);
        int function = Build.lambda(mill, Build.functionType(mill, 0, 0), body);
        int program = Build.call(mill, function, Build.constant(mill, 1));
        String what = "an endless part " + place + " of kind " + kind;
        Expect.refused(what, IllegalStateException.class, () -> mill.evaluate(program));
        Expect.due("steps of " + what, mill.steps(), want);
    }

    private static void mostSteps() {
        TypedMill fits = new TypedMill();
        int short499 = manySteps(fits, 11, 21, 1);
        Expect.due("what 499 steps give", fits.evaluate(short499), 11 * 21 + 1);
        steps(fits, "one less than the most", short499, 499);
        TypedMill edge = new TypedMill();
        int most = manySteps(edge, 12, 19, 3);
        Expect.due("what 500 steps give", edge.evaluate(most), 12 * 19 + 3);
        steps(edge, "exactly the most", most, 500);
        tooMany(11, 21, 2);
        tooMany(12, 19, 4);
        tooMany(16, 32, 0);
    }

    private static void tooMany(int calls, int leaves, int constants) {
        TypedMill mill = new TypedMill();
        int program = manySteps(mill, calls, leaves, constants);
        String what = "more than the most, with " + calls + " calls";
        Expect.refused(what, IllegalStateException.class, () -> mill.evaluate(program));
        Expect.due("steps of " + what, mill.steps(), 500);
    }

    /**
     * A sum of calls of a function and of constants. The function sums its argument so many times in
     * 2 * leaves - 1 steps; all of it takes 2 + calls * (2 * leaves + 3) + 2 * constants.
     */
    private static int manySteps(TypedMill mill, int calls, int leaves, int constants) {
        int plain = Build.functionType(mill, 0, 0);
        int x = Build.variable(mill, 0);
        int one = Build.constant(mill, 1);
        int function = Build.lambda(mill, plain, Build.sum(mill, leaves, x));
        int called = Build.call(mill, x, one);
        int[] parts = new int[calls + constants];
        Arrays.fill(parts, 0, calls, called);
        Arrays.fill(parts, calls, parts.length, one);
        int all = sumOf(mill, parts, 0, parts.length);
        return Build.call(mill, Build.lambda(mill, Build.functionType(mill, plain, 0), all), function);
    }

    private static int sumOf(TypedMill mill, int[] parts, int from, int to) {
        if (to - from == 1) {
            return parts[from];
        }
        int middle = (from + to) / 2;
        return Build.plus(mill, sumOf(mill, parts, from, middle), sumOf(mill, parts, middle, to));
    }

    private static void refusalsLeaveIt() {
        TypedMill mill = new TypedMill();
        int one = Build.constant(mill, 1);
        int sum = Build.plus(mill, one, one);
        int wrong = Build.first(mill, one);
        Expect.due("steps() before any", mill.steps(), 0);
        Expect.refused("no program", IllegalArgumentException.class, () -> mill.evaluate(wrong));
        Expect.due("steps() before any that was not refused", mill.steps(), 0);
        steps(mill, "a sum", sum, 3);
        Expect.refused("no expression", NoSuchElementException.class, () -> mill.evaluate(99));
        Expect.refused("no program", IllegalArgumentException.class, () -> mill.evaluate(wrong));
        Expect.due("steps() of the latest one", mill.steps(), 3);
        mill.compile(sum);
        mill.run(100);
        mill.clear();
        Expect.due("steps() whatever else is called", mill.steps(), 3);
    }
}
