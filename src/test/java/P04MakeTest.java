/** Promise 4: make. */
final class P04MakeTest {
    public static void main(String[] args) {
        everyKind();
        wrongInputs();
        greatestHeight();
        fortyExpressions();
        Expect.end();
    }

    private static void everyKind() {
        TypedMill mill = new TypedMill();
        int function = Build.functionType(mill, 0, 0);
        int odd = mill.type(2, mill.type(4, -1, -1, -1), mill.type(3, 0, 0, 0), 0);
        Expect.due("CONSTANT, its parts not looked at", mill.make(0, Integer.MIN_VALUE, 9, 9, 9), 0);
        Expect.due("VARIABLE 0", mill.make(1, 0, -1, -1, -1), 1);
        Expect.due("VARIABLE 20", mill.make(1, 20, 0, 0, 0), 2);
        Expect.due("+, a and z not looked at", mill.make(2, -5, 0, 1, 99), 3);
        Expect.due("-", mill.make(3, 99, 0, 1, -1), 4);
        Expect.due("*", mill.make(4, 0, 4, 3, 99), 5);
        Expect.due("CHOICE", mill.make(5, 0, 0, 1, 2), 6);
        Expect.due("LAMBDA, y and z not looked at", mill.make(6, function, 6, -1, 99), 7);
        Expect.due("LAMBDA with any FUNCTION", mill.make(6, odd, 0, 0, 0), 8);
        Expect.due("CALL", mill.make(7, -5, 7, 7, -1), 9);
        Expect.due("PAIR", mill.make(8, 0, 0, 0, -1), 10);
        Expect.due("FIRST, y not looked at", mill.make(9, 0, 10, 99, 0), 11);
        Expect.due("SECOND", mill.make(10, 0, 10, -1, -1), 12);
        Expect.due("the same again is another one", mill.make(10, 0, 10, -1, -1), 13);
    }

    private static void wrongInputs() {
        TypedMill mill = new TypedMill();
        Build.pairType(mill, 0, 0);
        Build.functionType(mill, 0, 0);
        Expect.due("one part", Build.constant(mill, 3), 0);
        int[] kinds = {-1, 11, 12, Integer.MIN_VALUE, Integer.MAX_VALUE};
        for (int kind : kinds) {
            Expect.due("kind " + kind, mill.make(kind, 0, 0, 0, 0), -1);
        }
        int[] absent = {-1, 1, 40, Integer.MIN_VALUE, Integer.MAX_VALUE};
        for (int part : absent) {
            for (int kind = 2; kind <= 10; kind++) {
                Expect.due("kind " + kind + " with x " + part, mill.make(kind, 2, part, 0, 0), -1);
            }
            int[] two = {2, 3, 4, 5, 7, 8};
            for (int kind : two) {
                Expect.due("kind " + kind + " with y " + part, mill.make(kind, 2, 0, part, 0), -1);
            }
            Expect.due("CHOICE with z " + part, mill.make(5, 0, 0, 0, part), -1);
        }
        int[] variables = {-1, 21, Integer.MIN_VALUE, Integer.MAX_VALUE};
        for (int a : variables) {
            Expect.due("VARIABLE " + a, mill.make(1, a, 0, 0, 0), -1);
        }
        int[] types = {-1, 0, 1, 3, Integer.MIN_VALUE, Integer.MAX_VALUE};
        for (int a : types) {
            Expect.due("LAMBDA with type " + a, mill.make(6, a, 0, 0, 0), -1);
        }
        Expect.due("nothing was made", Build.constant(mill, 3), 1);
    }

    private static void greatestHeight() {
        TypedMill mill = new TypedMill();
        int high = Build.constant(mill, 1);
        for (int k = 2; k <= 8; k++) {
            high = Build.first(mill, high);
            Expect.due("height " + k, high, k - 1);
        }
        for (int kind = 2; kind <= 10; kind++) {
            int type = Build.functionType(mill, 0, 0);
            Expect.due("kind " + kind + " over height 8", mill.make(kind, type, high, 0, 0), -1);
        }
        Expect.due("height 9 by y", mill.make(8, 0, 0, high, 0), -1);
        Expect.due("height 9 by z", mill.make(5, 0, 0, 0, high), -1);
        Expect.due("what is not looked at has no height", mill.make(9, 0, 0, high, high), 8);
        Expect.due("height 8 by z", mill.make(5, 0, 0, 0, high - 1), 9);
    }

    private static void fortyExpressions() {
        TypedMill mill = new TypedMill();
        for (int k = 0; k < 40; k++) {
            Expect.due("expression " + k, Build.constant(mill, k), k);
        }
        Expect.due("one more", Build.constant(mill, 0), -1);
        Expect.due("the last one", mill.evaluate(39), 39);
        Expect.yes("there is no number 40", !mill.is(40, 0));
    }
}
