import java.util.function.ToIntFunction;

/** The boundary cases of compiling: how much fits, how far a VARIABLE is, how large types get (8, 13 and 14). */
final class TermsCompileTest {
    private static final String TOO_LARGE = "throws.UnsupportedOperationException";

    public static void main(String[] args) {
        instructionsInBlockZero();
        instructionsInBodies();
        instructionsBehindCalls();
        blocksOfChoices();
        blocksOfLambdas();
        blocksOfCalls();
        whichRefusalComesFirst();
        howFarVariablesAre();
        whatIsNotNamedAhead();
        sizesAboveThirty();
        shorterCodeBehindLonger();
        Expect.end();
    }

    /** It has so many instructions, is right, and comes to what evaluate() gives; or it is too large. */
    private static void fits(String what, ToIntFunction<TypedMill> making, int instructions, int blocks) {
        TypedMill mill = new TypedMill();
        int program = making.applyAsInt(mill);
        int answer = mill.evaluate(program);
        boolean fits = instructions <= 300 && blocks <= 40;
        Expect.due(what, Expect.answer(() -> mill.compile(program)), fits ? "" + instructions : TOO_LARGE);
        if (fits) {
            Expect.yes("the last instruction of " + what, mill.instruction(instructions - 1, 0) >= 11);
            Expect.due("none behind it", mill.instruction(instructions, 0), -1);
            Expect.yes("the last block of " + what, mill.look(blocks - 1, 1) > 0);
            Expect.due("none behind it", mill.look(blocks, 0), -1);
            Expect.due("check() of " + what, mill.check(), -1);
            mill.run(1000);
            mill.run(1000);
            Expect.due("state behind " + what, mill.state(), 1);
            Expect.due("answer of " + what, mill.register(2, 1), answer);
        } else {
            Tells tells = new Tells(other -> {
                making.applyAsInt(other);
                other.compile(0);
                other.run(1);
            });
            tells.stay(what, other -> Expect.due(what, Expect.answer(() -> other.compile(program)), TOO_LARGE));
        }
    }

    /** A sum with so many leaves, so many twos of which are FIRST of a PAIR: 5 * leaves - 4 + firsts. */
    private static int sum(TypedMill mill, int leaves, int firsts) {
        int one = Build.constant(mill, 1);
        if (firsts == 0) {
            return Build.sum(mill, leaves, one);
        }
        int two = Build.first(mill, Build.pair(mill, one, one));
        return Build.plus(mill, Build.sum(mill, leaves - 2 * firsts, one), Build.sum(mill, firsts, two));
    }

    private static void instructionsInBlockZero() {
        fits("299 instructions", mill -> sum(mill, 60, 2), 299, 1);
        fits("300 instructions", mill -> sum(mill, 60, 3), 300, 1);
        fits("301 instructions", mill -> sum(mill, 60, 4), 301, 1);
        fits("302 instructions", mill -> sum(mill, 61, 0), 302, 1);
    }

    private static int lambda(TypedMill mill, int body) {
        return Build.lambda(mill, Build.functionType(mill, 0, 0), body);
    }

    /** A sum of what a CALL gives, whose body is a sum of 16, and of others: 99 + 5 * leaves + firsts. */
    private static int besideCall(TypedMill mill, int leaves, int firsts) {
        int others = sum(mill, leaves, firsts);
        int body = Build.sum(mill, 16, 0);
        return Build.plus(mill, Build.call(mill, lambda(mill, body), 0), others);
    }

    private static void instructionsInBodies() {
        fits("299, the last in a body", mill -> besideCall(mill, 39, 5), 299, 3);
        fits("300, the last in a body", mill -> besideCall(mill, 39, 6), 300, 3);
        fits("301, the last in a body", mill -> besideCall(mill, 39, 7), 301, 3);
    }

    /** A sum given to a function whose body is a sum of 25: 139 + 5 * leaves + firsts. */
    private static int given(TypedMill mill, int leaves, int firsts) {
        int argument = sum(mill, leaves, firsts);
        return Build.call(mill, lambda(mill, Build.sum(mill, 25, 0)), argument);
    }

    private static void instructionsBehindCalls() {
        fits("299 with a CALL", mill -> given(mill, 32, 0), 299, 3);
        fits("300 with a CALL", mill -> given(mill, 32, 1), 300, 3);
        fits("301 with a CALL", mill -> given(mill, 32, 2), 301, 3);
    }

    private static int choices(TypedMill mill, int many) {
        return Build.choices(mill, many, Build.constant(mill, 1));
    }

    private static int ahead(TypedMill mill, int lambdas, int program) {
        int same = lambda(mill, Build.variable(mill, 0));
        int put = program;
        for (int k = 0; k < lambdas; k++) {
            put = Build.second(mill, Build.pair(mill, same, put));
        }
        return put;
    }

    /** A CHOICE is 5 instructions with its leaves (one leaf is there before) and names two blocks. */
    private static void blocksOfChoices() {
        fits("39 blocks", mill -> choices(mill, 19), 97, 39);
        fits("40 blocks, the last by a CHOICE", mill -> ahead(mill, 1, choices(mill, 19)), 97 + 8 + 11, 40);
        fits("41 blocks, the last by a CHOICE", mill -> choices(mill, 20), 102, 41);
        fits("42 blocks, the last by a CHOICE", mill -> ahead(mill, 1, choices(mill, 20)), 121, 42);
    }

    /** CHOICEs, and behind them one LAMBDA (8 instructions and 11 in its body) or two (15 and 22). */
    private static int behind(TypedMill mill, int choices, int lambdas) {
        int chosen = choices(mill, choices);
        int same = lambda(mill, Build.variable(mill, 0));
        return Build.first(mill, Build.pair(mill, chosen, lambdas == 1 ? same : Build.pair(mill, same, same)));
    }

    private static void blocksOfLambdas() {
        fits("39 blocks, the last by a LAMBDA", mill -> behind(mill, 18, 2), 92 + 15 + 22, 39);
        fits("40 blocks, the last by a LAMBDA", mill -> behind(mill, 19, 1), 97 + 8 + 11, 40);
        fits("41 blocks, the last by a LAMBDA", mill -> behind(mill, 19, 2), 97 + 15 + 22, 41);
    }

    /** A CALL of a LAMBDA names two, the one behind it last. */
    private static void blocksOfCalls() {
        int call = 11 + 11;
        fits("39 blocks, the last by a CALL", mill -> callOf(mill, 18), 92 + call, 39);
        fits("40 blocks, the last by a CALL", mill -> ahead(mill, 1, callOf(mill, 18)), 92 + call + 8 + 11, 40);
        fits("41 blocks, the last by a CALL", mill -> callOf(mill, 19), 97 + call, 41);
    }

    private static int callOf(TypedMill mill, int choices) {
        int given = choices(mill, choices);
        return Build.call(mill, lambda(mill, Build.variable(mill, 0)), given);
    }

    private static void whichRefusalComesFirst() {
        TypedMill mill = new TypedMill();
        Things things = new Things(mill);
        Expect.due("no program, and too large", Expect.answer(() -> mill.compile(things.largePair)),
                "throws.IllegalArgumentException");
        Expect.due("a program, and too large", Expect.answer(() -> mill.compile(things.highest)), TOO_LARGE);
        Expect.due("one behind the last", Expect.answer(() -> mill.compile(things.expressions)),
                "throws.NoSuchElementException");
        Expect.due("one that would be over", Expect.answer(() -> mill.compile(things.endless)), "36");
    }

    /** The LOADs of a VARIABLE n pairs behind: 1 for 0, else n + 1. */
    private static void far(String what, int n, int lambdas, int pushes, int a) {
        TypedMill mill = new TypedMill();
        int body = Build.variable(mill, a);
        int one = Build.constant(mill, 1);
        for (int k = 0; k < pushes; k++) {
            body = Build.plus(mill, one, body);
        }
        int type = 0;
        for (int k = 0; k < lambdas; k++) {
            type = Build.functionType(mill, 0, type);
            body = Build.lambda(mill, type, body);
        }
        mill.compile(Build.second(mill, Build.pair(mill, body, one)));
        int at = mill.look(lambdas, 0) + 6 + 2 * pushes;
        StringBuilder told = new StringBuilder();
        for (int k = at; mill.instruction(k, 1) != 2; k++) {
            told.append(Build.instruction(mill, k)).append("; ");
        }
        String want = n == 0 ? "" : "LOAD 4 1 0; " + "LOAD 4 4 0; ".repeat(n - 1);
        Expect.due(what, told.toString(), want);
        int last = at + (n == 0 ? 0 : n);
        Expect.due("the last LOAD of " + what, Build.instruction(mill, last), n == 0 ? "LOAD 2 1 1" : "LOAD 2 4 1");
    }

    private static void howFarVariablesAre() {
        far("the argument", 0, 1, 0, 0);
        far("the argument behind a PUSH", 1, 1, 1, 0);
        far("the argument behind two", 2, 1, 2, 0);
        far("the outer argument", 3, 2, 0, 2);
        far("the outer argument behind a PUSH", 4, 2, 1, 2);
        far("the outermost argument of five", 12, 5, 0, 8);
        TypedMill mill = new TypedMill();
        int again = Build.call(mill, Build.variable(mill, 1), Build.variable(mill, 0));
        mill.compile(Build.call(mill, lambda(mill, again), Build.constant(mill, 1)));
        int at = mill.look(1, 0) + 6;
        Expect.due("the function, first", Build.instruction(mill, at), "LOAD 4 1 0");
        Expect.due("the function, two pairs behind", Build.instruction(mill, at + 1), "LOAD 4 4 0");
        Expect.due("the function, last", Build.instruction(mill, at + 2), "LOAD 2 4 1");
    }

    /** Blocks are numbered where they are named: z's ahead of the one behind, a CALL's behind y's. */
    private static void whatIsNotNamedAhead() {
        TypedMill mill = new TypedMill();
        int one = Build.constant(mill, 1);
        int same = lambda(mill, Build.variable(mill, 0));
        int chosen = Build.choice(mill, one, same, same);
        mill.compile(Build.call(mill, chosen, Build.choice(mill, one, one, one)));
        Expect.due("z of x", mill.instruction(1, 2), 1);
        Expect.due("the LAMBDA in y", mill.instruction(2, 2), 3);
        Expect.due("behind the CHOICE", mill.instruction(5, 1), 2);
        Expect.due("the LAMBDA in z", mill.instruction(6, 2), 4);
        Expect.due("z of y", mill.instruction(12, 2), 5);
        Expect.due("behind y's CHOICE", mill.instruction(14, 1), 6);
        Expect.due("behind the CALL", mill.instruction(17, 2), 7);
        Expect.due("no more", mill.look(8, 0), -1);
        Expect.yes("bodies in the order in which they were met", mill.look(3, 0) < mill.look(4, 0));
        Expect.due("the first body is behind HALT", mill.look(3, 0), mill.look(7, 0) + 1);
    }

    /** What a CHOICE asks of 1 behind PUSHes of large pairs, and of 2 for a large pair: 30 is no limit. */
    private static void sizesAboveThirty() {
        int[] sizes = {1, 3, 7, 15, 31, 63};
        for (int k = 0; k < sizes.length; k++) {
            TypedMill mill = new TypedMill();
            int one = Build.constant(mill, 1);
            int large = one;
            for (int n = 0; n < k; n++) {
                large = Build.pair(mill, large, large);
            }
            mill.compile(Build.second(mill, Build.pair(mill, large, Build.choice(mill, one, one, one))));
            Expect.due("the environment behind a PUSH", mill.look(1, 2), 2 + sizes[k]);
            Expect.due("of 2 z's asks nothing", mill.look(1, 3), 0);
            Expect.due("the one behind asks it, too", mill.look(2, 2), 2 + sizes[k]);
            Expect.due("and a NUMBER of 2", mill.look(2, 3), 1);
            Expect.due("nothing of 3", mill.look(2, 4), 0);
        }
    }

    /** Nothing of longer code is left behind shorter code, whether the longer one was compiled or by hand. */
    private static void shorterCodeBehindLonger() {
        TypedMill mill = new TypedMill();
        int one = Build.constant(mill, 1);
        int longer = choices(mill, 10);
        for (int k = 0; k < 3; k++) {
            Expect.due("longer code", mill.compile(longer), 52);
            Expect.due("its blocks", mill.look(20, 1), 1);
            Expect.due("shorter code", mill.compile(one), 2);
            Expect.due("no block 1", mill.look(1, 0), -1);
            Expect.due("no instruction 2", mill.instruction(2, 0), -1);
            Expect.due("run()", mill.run(1000), 2);
        }
        mill.clear();
        mill.block(-1, -1, -1);
        Expect.due("no instruction of what was compiled", mill.look(0, 1), 0);
        Expect.due("nor is any told", mill.instruction(0, 0), -1);
    }
}
