/** The boundary cases of expressions: how many, how high, their parts and numbers (promise 4). */
final class TermsExpressionsTest {
    private static final int[] ONE_PART = {6, 9, 10};
    private static final int[] TWO_PARTS = {2, 3, 4, 7, 8};

    public static void main(String[] args) {
        heightsOfEachKind();
        theGreatestPartCounts();
        variableNumbers();
        partsMadeBefore();
        oneShortOfForty();
        beyondForty();
        Expect.end();
    }

    /** An object with a FUNCTION type 1, expression 0 of height 1, and one of each height up to this. */
    private static TypedMill withHeight(int height) {
        TypedMill mill = new TypedMill();
        Build.functionType(mill, 0, 0);
        Build.constant(mill, 1);
        for (int k = 2; k <= height; k++) {
            Expect.due("height " + k, Build.first(mill, k - 2), k - 1);
        }
        return mill;
    }

    private static void heightsOfEachKind() {
        for (int height = 6; height <= 8; height++) {
            int high = height - 1;
            boolean fits = height < 8;
            for (int kind : ONE_PART) {
                makes(height, kind, high, 0, 0, fits);
            }
            for (int kind : TWO_PARTS) {
                makes(height, kind, high, 0, 0, fits);
                makes(height, kind, 0, high, 0, fits);
                makes(height, kind, high, high, 0, fits);
            }
            makes(height, 5, high, 0, 0, fits);
            makes(height, 5, 0, high, 0, fits);
            makes(height, 5, 0, 0, high, fits);
            makes(height, 5, high, high, high, fits);
        }
        TypedMill mill = withHeight(8);
        Expect.due("a CONSTANT has no parts", mill.make(0, 1, 7, 7, 7), 8);
        Expect.due("a VARIABLE has no parts", mill.make(1, 0, 7, 7, 7), 9);
        Expect.due("FIRST has one part", mill.make(9, 0, 0, 7, 7), 10);
        Expect.due("LAMBDA has one part", mill.make(6, 1, 0, 7, 7), 11);
        Expect.due("+ has two parts", mill.make(2, 0, 0, 0, 7), 12);
        Expect.due("CALL has two parts", mill.make(7, 0, 0, 0, 7), 13);
        Expect.due("what has height 8 can be no part", mill.make(2, 0, 7, 0, 0), -1);
    }

    private static void makes(int height, int kind, int x, int y, int z, boolean fits) {
        TypedMill mill = withHeight(height);
        String what = "kind " + kind + " over " + x + ", " + y + ", " + z;
        Expect.due(what, mill.make(kind, 1, x, y, z), fits ? height : -1);
        Expect.due("next behind " + what, Build.constant(mill, 1), fits ? height + 1 : height);
    }

    /** Each part in turn is the highest one: what is made of it is one higher. */
    private static void theGreatestPartCounts() {
        for (int place = 0; place < 3; place++) {
            TypedMill mill = withHeight(6);
            int seven = mill.make(5, 0, place == 0 ? 5 : 1, place == 1 ? 5 : 2, place == 2 ? 5 : 3);
            int eight = Build.first(mill, seven);
            Expect.due("height 7 by part " + place, seven, 6);
            Expect.due("height 8 over it", eight, 7);
            Expect.due("height 9 over that", Build.first(mill, eight), -1);
        }
    }

    private static void variableNumbers() {
        TypedMill mill = new TypedMill();
        int[] numbers = {-1, 0, 1, 19, 20, 21};
        int[] want = {-1, 0, 1, 2, 3, -1};
        for (int k = 0; k < numbers.length; k++) {
            Expect.due("VARIABLE " + numbers[k], mill.make(1, numbers[k], 0, 0, 0), want[k]);
        }
        int[] any = {Integer.MIN_VALUE, -1, 0, 21, Integer.MAX_VALUE};
        for (int k = 0; k < any.length; k++) {
            int made = mill.make(0, any[k], 0, 0, 0);
            Expect.due("CONSTANT " + any[k], made, 4 + k);
            Expect.due("its number", mill.evaluate(made), any[k]);
        }
    }

    /** No expression is a part of itself, or of one that was made ahead of it. */
    private static void partsMadeBefore() {
        TypedMill mill = new TypedMill();
        Expect.due("FIRST of itself", Build.first(mill, 0), -1);
        Expect.due("the first one", Build.constant(mill, 1), 0);
        Expect.due("FIRST of itself", Build.first(mill, 1), -1);
        Expect.due("FIRST of the one before", Build.first(mill, 0), 1);
        Expect.due("FIRST of one before", Build.first(mill, 1), 2);
        Expect.due("a part of several", Build.choice(mill, 0, 0, 0), 3);
    }

    private static void thirtyNine(TypedMill mill) {
        Build.functionType(mill, 0, 0);
        for (int k = 0; k < 39; k++) {
            Expect.due("expression " + k, k % 2 == 0 ? Build.constant(mill, k) : Build.plus(mill, k - 1, 0), k);
        }
    }

    private static void forty(TypedMill mill) {
        thirtyNine(mill);
        Expect.due("the fortieth", Build.plus(mill, 38, 36), 39);
    }

    private static void oneShortOfForty() {
        TypedMill mill = new TypedMill();
        thirtyNine(mill);
        Expect.yes("there is no fortieth yet", !mill.is(39, 0));
        Expect.due("one that is refused", Build.plus(mill, 39, 0), -1);
        Expect.due("the fortieth", Build.plus(mill, 38, 36), 39);
        Expect.due("its number", mill.evaluate(39), 74);
        Expect.due("its code", mill.compile(39), 7);
        Expect.due("the fortieth is a part of nothing new", Build.first(mill, 39), -1);
    }

    private static void beyondForty() {
        Tells tells = new Tells(TermsExpressionsTest::forty);
        for (int k = 0; k <= 10; k++) {
            int kind = k;
            tells.stay("kind " + k + " at forty expressions",
                    mill -> Expect.due("kind " + kind + " beyond", mill.make(kind, 1, 0, 0, 0), -1));
        }
    }
}
