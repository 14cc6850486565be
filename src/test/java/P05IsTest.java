/** Promise 5: is. */
final class P05IsTest {
    private static TypedMill mill;

    public static void main(String[] args) {
        numbersAndPairs();
        choices();
        lambdasAndCalls();
        variables();
        greatTypes();
        Expect.end();
    }

    private static void is(String what, int expression, int type, boolean want) {
        Expect.due(what, mill.is(expression, type) ? 1 : 0, want ? 1 : 0);
    }

    private static void numbersAndPairs() {
        mill = new TypedMill();
        int two = Build.pairType(mill, 0, 0);
        int nested = Build.pairType(mill, 0, two);
        int one = Build.constant(mill, 1);
        int pair = Build.pair(mill, one, one);
        int deep = Build.pair(mill, one, pair);
        is("CONSTANT is NUMBER", one, 0, true);
        is("CONSTANT is no PAIR", one, two, false);
        is("PAIR", pair, two, true);
        is("PAIR is no other PAIR", pair, nested, false);
        is("PAIR in a PAIR", deep, nested, true);
        is("FIRST", Build.first(mill, deep), 0, true);
        is("SECOND", Build.second(mill, deep), two, true);
        is("FIRST of a number", Build.first(mill, one), 0, false);
        is("SECOND of a number", Build.second(mill, one), 0, false);
        for (int kind = 2; kind <= 4; kind++) {
            is("kind " + kind, mill.make(kind, 0, one, one, 0), 0, true);
            is("kind " + kind + " with a PAIR on the left", mill.make(kind, 0, pair, one, 0), 0, false);
            is("kind " + kind + " with a PAIR on the right", mill.make(kind, 0, one, pair, 0), 0, false);
        }
        int[] absent = {-1, 99, Integer.MIN_VALUE, Integer.MAX_VALUE};
        for (int k : absent) {
            is("no expression " + k, k, 0, false);
            is("no type " + k, one, k, false);
            is("an expression without type and no type " + k, Build.first(mill, one), k, false);
        }
    }

    private static void choices() {
        mill = new TypedMill();
        int two = Build.pairType(mill, 0, 0);
        int one = Build.constant(mill, 1);
        int pair = Build.pair(mill, one, one);
        int wrong = Build.first(mill, one);
        is("CHOICE of numbers", Build.choice(mill, one, one, one), 0, true);
        is("CHOICE of pairs", Build.choice(mill, one, pair, pair), two, true);
        is("CHOICE by a pair", Build.choice(mill, pair, one, one), 0, false);
        int mixed = Build.choice(mill, one, one, pair);
        is("CHOICE of two types, y's", mixed, 0, false);
        is("CHOICE of two types, z's", mixed, two, false);
        is("CHOICE of y without type", Build.choice(mill, one, wrong, one), 0, false);
        is("CHOICE of z without type", Build.choice(mill, one, one, wrong), 0, false);
        is("PAIR of one without type", Build.pair(mill, wrong, one), two, false);
        is("PAIR with one without type", Build.pair(mill, one, wrong), two, false);
    }

    private static void lambdasAndCalls() {
        mill = new TypedMill();
        int two = Build.pairType(mill, 0, 0);
        int plain = Build.functionType(mill, 0, 0);
        int toPair = Build.functionType(mill, 0, two);
        int fromPair = Build.functionType(mill, two, 0);
        int one = Build.constant(mill, 1);
        int argument = Build.variable(mill, 0);
        int itself = Build.variable(mill, 1);
        int pair = Build.pair(mill, argument, one);
        int same = Build.lambda(mill, plain, argument);
        is("LAMBDA", same, plain, true);
        is("LAMBDA is no other FUNCTION", same, toPair, false);
        is("LAMBDA with a PAIR", Build.lambda(mill, toPair, pair), toPair, true);
        is("LAMBDA with the wrong result", Build.lambda(mill, plain, pair), plain, false);
        is("LAMBDA with the wrong argument", Build.lambda(mill, fromPair, argument), fromPair, false);
        is("LAMBDA that takes a PAIR", Build.lambda(mill, fromPair, Build.second(mill, argument)), fromPair, true);
        is("LAMBDA that calls itself", Build.lambda(mill, plain, Build.call(mill, itself, one)), plain, true);
        is("LAMBDA that calls its argument", Build.lambda(mill, plain, Build.call(mill, argument, one)), plain,
                false);
        is("LAMBDA of nothing known", Build.lambda(mill, plain, Build.variable(mill, 2)), plain, false);
        is("CALL", Build.call(mill, same, one), 0, true);
        is("CALL with the wrong argument", Build.call(mill, same, same), 0, false);
        is("CALL of a number", Build.call(mill, one, one), 0, false);
        is("CALL gives the result", Build.call(mill, Build.lambda(mill, toPair, pair), one), two, true);
        is("CALL with one without type", Build.call(mill, same, argument), 0, false);
    }

    private static void variables() {
        mill = new TypedMill();
        int two = Build.pairType(mill, 0, 0);
        int inner = Build.functionType(mill, two, 0);
        int outer = Build.functionType(mill, 0, inner);
        is("a VARIABLE where nothing is bound", Build.variable(mill, 0), 0, false);
        int[] fits = {-1, -1, 0, -1};
        for (int a = 0; a < fits.length; a++) {
            int body = Build.lambda(mill, inner, Build.variable(mill, a));
            is("VARIABLE " + a + " in two LAMBDAs", Build.lambda(mill, outer, body), outer, fits[a] == 0);
        }
        int argument = Build.first(mill, Build.variable(mill, 0));
        int applied = Build.call(mill, Build.variable(mill, 1), Build.variable(mill, 0));
        int further = Build.call(mill, Build.call(mill, Build.variable(mill, 3), Build.variable(mill, 2)),
                Build.variable(mill, 0));
        is("VARIABLE 0", Build.lambda(mill, outer, Build.lambda(mill, inner, argument)), outer, true);
        is("VARIABLE 1", Build.lambda(mill, outer, Build.lambda(mill, inner, applied)), outer, true);
        is("VARIABLE 3", Build.lambda(mill, outer, Build.lambda(mill, inner, further)), outer, true);
        int gone = Build.pair(mill, Build.lambda(mill, inner, argument), Build.variable(mill, 0));
        is("bound in one part only", gone, Build.pairType(mill, inner, two), false);
    }

    /** Types between that are larger than any that can be kept do no harm. */
    private static void greatTypes() {
        mill = new TypedMill();
        int part = Build.constant(mill, 7);
        for (int k = 0; k < 6; k++) {
            part = Build.pair(mill, part, part);
        }
        is("a PAIR of size 127 is no NUMBER", part, 0, false);
        is("the first of it, six times over", Build.pair(mill, part, part), 0, false);
        Expect.due("no type was kept", mill.size(1), -1);
        int three = 0;
        for (int k = 0; k < 3; k++) {
            three = Build.pairType(mill, three, three);
        }
        is("a part of it that can be kept", 3, three, true);
    }
}
