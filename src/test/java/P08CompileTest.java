import java.util.NoSuchElementException;

/** Promise 8: compile. The listings were written by hand from the document. */
final class P08CompileTest {
    public static void main(String[] args) {
        plainKinds();
        choices();
        functions();
        callsInArguments();
        oneLambdaInTwoPlaces();
        functionsInPairs();
        whatWasThereGoes();
        mostInstructions();
        mostBlocks();
        refusals();
        Expect.end();
    }

    private static void listing(TypedMill mill, String what, int program, int instructions, String want) {
        Expect.due("compile " + what, mill.compile(program), instructions);
        Expect.due("code of " + what, Build.listing(mill), want);
        Expect.due("check of " + what, mill.check(), -1);
        Expect.due("the machine, begun", Build.machine(mill), "0: 1/0 0/0 0/0 0/0 0/0");
        int answer = mill.evaluate(program);
        mill.run(1000);
        Expect.due("state at the end of " + what, mill.state(), 1);
        Expect.due("answer of " + what, mill.register(2, 1), answer);
        Expect.due("environment behind " + what, mill.register(1, 0), 1);
    }

    private static void plainKinds() {
        TypedMill mill = new TypedMill();
        int seven = Build.constant(mill, 7);
        int three = Build.constant(mill, -3);
        listing(mill, "CONSTANT", three, 2, "0(1 0 0)@0: SET 2 -3 0; HALT 0 0 0;");
        String[] names = {"ADD", "SUB", "MUL"};
        for (int k = 0; k < 3; k++) {
            listing(mill, names[k], mill.make(2 + k, 0, seven, three, 0), 7,
                    "0(1 0 0)@0: SET 2 7 0; NEW 1 1 2; SET 2 -3 0; LOAD 4 1 1; " + names[k]
                            + " 2 4 2; LOAD 1 1 0; HALT 0 0 0;");
        }
        int pair = Build.pair(mill, seven, three);
        String made = "0(1 0 0)@0: SET 2 7 0; NEW 1 1 2; SET 2 -3 0; LOAD 4 1 1; NEW 2 4 2; LOAD 1 1 0; ";
        listing(mill, "FIRST", Build.first(mill, pair), 8, made + "LOAD 2 2 0; HALT 0 0 0;");
        listing(mill, "SECOND", Build.second(mill, pair), 8, made + "LOAD 2 2 1; HALT 0 0 0;");
    }

    private static void choices() {
        TypedMill mill = new TypedMill();
        int zero = Build.constant(mill, 0);
        int four = Build.constant(mill, 4);
        int inner = Build.choice(mill, four, zero, four);
        listing(mill, "CHOICE", inner, 7, "0(1 0 0)@0: SET 2 4 0; BRANCH 2 1 0; SET 2 0 0; JUMP 2 0 0;"
                + " | 1(1 0 0)@4: SET 2 4 0; JUMP 2 0 0; | 2(1 1 0)@6: HALT 0 0 0;");
        listing(mill, "CHOICE in y", Build.choice(mill, zero, inner, four), 12,
                "0(1 0 0)@0: SET 2 0 0; BRANCH 2 1 0; SET 2 4 0; BRANCH 2 3 0; SET 2 0 0; JUMP 4 0 0;"
                        + " | 1(1 0 0)@9: SET 2 4 0; JUMP 2 0 0; | 2(1 1 0)@11: HALT 0 0 0;"
                        + " | 3(1 0 0)@6: SET 2 4 0; JUMP 4 0 0; | 4(1 1 0)@8: JUMP 2 0 0;");
        int pair = Build.pair(mill, four, zero);
        int chosen = Build.first(mill, Build.choice(mill, zero, pair, pair));
        String code = " SET 2 4 0; NEW 1 1 2; SET 2 0 0; LOAD 4 1 1; NEW 2 4 2; LOAD 1 1 0;";
        listing(mill, "CHOICE of pairs behind a PUSH", Build.plus(mill, four, chosen), 23,
                "0(1 0 0)@0: SET 2 4 0; NEW 1 1 2; SET 2 0 0; BRANCH 2 1 0;" + code + " JUMP 2 0 0;"
                        + " | 1(3 0 0)@11:" + code + " JUMP 2 0 0; | 2(3 3 0)@18: LOAD 2 2 0; LOAD 4 1 1;"
                        + " ADD 2 4 2; LOAD 1 1 0; HALT 0 0 0;");
    }

    private static void functions() {
        TypedMill mill = new TypedMill();
        int plain = Build.functionType(mill, 0, 0);
        int makes = Build.functionType(mill, 0, plain);
        int body = Build.minus(mill, Build.variable(mill, 2), Build.variable(mill, 0));
        int curried = Build.lambda(mill, makes, Build.lambda(mill, plain, body));
        int once = Build.call(mill, curried, Build.constant(mill, 10));
        listing(mill, "a LAMBDA in a LAMBDA", Build.call(mill, once, Build.constant(mill, 3)), 55,
                "0(1 0 0)@0: NAME 4 1 0; NEW 4 4 1; WRAP 2 4 5; NEW 1 1 2; SET 2 10 0; NAME 4 2 0; LOAD 5 1 0;"
                        + " NEW 4 4 5; WRAP 3 4 4; LOAD 4 1 1; OPEN 5 1 4; GO 5 0 0;"
                        + " | 1(1 1 4)@22: NAME 4 1 0; NEW 4 4 1; WRAP 4 4 5; NEW 1 1 4; NEW 1 1 3; NEW 1 1 2;"
                        + " NAME 4 4 0; NEW 4 4 1; WRAP 2 4 3; LOAD 4 1 0; LOAD 4 4 1; OPEN 5 1 4; GO 5 0 0;"
                        + " | 2(1 3 0)@12: NEW 1 1 2; SET 2 3 0; NAME 4 3 0; LOAD 5 1 0; NEW 4 4 5; WRAP 3 4 2;"
                        + " LOAD 4 1 1; OPEN 5 1 4; GO 5 0 0;"
                        + " | 3(1 1 0)@21: HALT 0 0 0;"
                        + " | 4(14 1 2)@35: NAME 4 4 0; NEW 4 4 1; WRAP 4 4 3; NEW 1 1 4; NEW 1 1 3; NEW 1 1 2;"
                        + " LOAD 4 1 0; LOAD 4 4 0; LOAD 4 4 0; LOAD 2 4 1; NEW 1 1 2; LOAD 4 1 0; LOAD 2 4 1;"
                        + " LOAD 4 1 1; SUB 2 4 2; LOAD 1 1 0; LOAD 4 1 0; LOAD 4 4 1; OPEN 5 1 4; GO 5 0 0;");
    }

    /** The block behind a CALL is named behind y's code: the inner one first. */
    private static void callsInArguments() {
        TypedMill mill = new TypedMill();
        int plain = Build.functionType(mill, 0, 0);
        int same = Build.lambda(mill, plain, Build.variable(mill, 0));
        int itself = Build.lambda(mill, plain, Build.constant(mill, 8));
        int inner = Build.call(mill, itself, Build.constant(mill, 1));
        String function = " NEW 4 4 1; WRAP 2 4 3;";
        String go = " LOAD 5 1 0; NEW 4 4 5; WRAP 3 4 2; LOAD 4 1 1; OPEN 5 1 4; GO 5 0 0;";
        String begin = " NEW 4 4 1; WRAP 4 4 3; NEW 1 1 4; NEW 1 1 3; NEW 1 1 2;";
        String back = " LOAD 4 1 0; LOAD 4 4 1; OPEN 5 1 4; GO 5 0 0;";
        listing(mill, "a CALL in a CALL", Build.call(mill, same, inner), 46,
                "0(1 0 0)@0: NAME 4 1 0;" + function + " NEW 1 1 2; NAME 4 2 0;" + function
                        + " NEW 1 1 2; SET 2 1 0; NAME 4 3 0;" + go
                        + " | 1(1 1 2)@24: NAME 4 1 0;" + begin + " LOAD 2 1 1;" + back
                        + " | 2(5 1 2)@35: NAME 4 2 0;" + begin + " SET 2 8 0;" + back
                        + " | 3(5 1 0)@16: NAME 4 4 0;" + go
                        + " | 4(1 1 0)@23: HALT 0 0 0;");
    }

    private static void oneLambdaInTwoPlaces() {
        TypedMill mill = new TypedMill();
        int plain = Build.functionType(mill, 0, 0);
        int itself = Build.lambda(mill, plain, Build.call(mill, Build.variable(mill, 1), Build.variable(mill, 0)));
        int one = Build.constant(mill, 1);
        int both = Build.pair(mill, itself, itself);
        Expect.due("compile", mill.compile(Build.second(mill, Build.pair(mill, both, one))), 17 + 2 * 23);
        Expect.due("the first body asks", mill.look(1, 2), 1);
        Expect.due("the second body asks", mill.look(2, 2), 5);
        Expect.yes("there are five blocks", mill.look(4, 0) >= 0 && mill.look(5, 0) < 0);
        Expect.due("VARIABLE 1, first LOAD", Build.instruction(mill, mill.look(1, 0) + 6), "LOAD 4 1 0");
        Expect.due("VARIABLE 1, second LOAD", Build.instruction(mill, mill.look(1, 0) + 7), "LOAD 4 4 0");
        Expect.due("VARIABLE 1, last LOAD", Build.instruction(mill, mill.look(1, 0) + 8), "LOAD 2 4 1");
        Expect.due("check()", mill.check(), -1);
    }

    private static void functionsInPairs() {
        TypedMill mill = new TypedMill();
        int two = Build.pairType(mill, 0, 0);
        int toPair = Build.functionType(mill, 0, two);
        int one = Build.constant(mill, 1);
        int x = Build.variable(mill, 0);
        int lambda = Build.lambda(mill, toPair, Build.pair(mill, x, x));
        int ahead = Build.call(mill, Build.first(mill, Build.pair(mill, lambda, one)), one);
        Expect.due("a function that is first", mill.compile(Build.first(mill, ahead)), 18 + 2 + 17);
        Expect.due("behind its CALL", mill.look(2, 3), 3);
        Expect.due("what waits for it", Build.instruction(mill, 14), "WRAP 3 4 4");
        Expect.due("check()", mill.check(), -1);
        int last = Build.call(mill, Build.second(mill, Build.pair(mill, one, lambda)), one);
        Expect.due("a function that is second", mill.compile(Build.second(mill, last)), 18 + 2 + 17);
        Expect.due("behind its CALL", mill.look(2, 3), 3);
        Expect.due("its body", Build.instruction(mill, mill.look(1, 0)), "NAME 4 1 0");
        Expect.due("check()", mill.check(), -1);
        Expect.due("no third body", mill.look(3, 0), -1);
    }

    private static void whatWasThereGoes() {
        TypedMill mill = new TypedMill();
        int pair = Build.pairType(mill, 0, 0);
        mill.block(pair, pair, pair);
        mill.block(-1, -1, -1);
        Build.code(mill, Build.i(0, 1, 1), Build.i(9, 0), Build.i(12));
        mill.run(5);
        int one = Build.constant(mill, 1);
        listing(mill, "after code by hand", one, 2, "0(1 0 0)@0: SET 2 1 0; HALT 0 0 0;");
        Expect.due("types stay", mill.type(1, 0, 0, 0), pair);
        int sum = Build.plus(mill, one, one);
        mill.compile(sum);
        listing(mill, "after other code", one, 2, "0(1 0 0)@0: SET 2 1 0; HALT 0 0 0;");
    }

    /** 60 leaves are 296 instructions, each FIRST of a PAIR in place of a + is one more, and HALT. */
    private static int manyInstructions(TypedMill mill, int firsts) {
        int one = Build.constant(mill, 1);
        int two = Build.first(mill, Build.pair(mill, one, one));
        int rest = Build.sum(mill, 60 - 2 * firsts, one);
        int others = Build.sum(mill, firsts, two);
        return Build.plus(mill, rest, others);
    }

    private static void mostInstructions() {
        TypedMill fits = new TypedMill();
        Expect.due("as many as there can be", fits.compile(manyInstructions(fits, 3)), 300);
        Expect.due("the last one", Build.instruction(fits, 299), "HALT 0 0 0");
        Expect.due("check()", fits.check(), -1);
        Expect.due("run()", fits.run(1000), 300);
        TypedMill over = new TypedMill();
        int program = manyInstructions(over, 4);
        Expect.due("it is a program", over.evaluate(program), 56);
        Expect.refused("301 instructions", UnsupportedOperationException.class, () -> over.compile(program));
        Expect.due("no code has come", over.look(0, 0), -1);
        TypedMill far = new TypedMill();
        int many = Build.sum(far, 128, Build.constant(far, 1));
        Expect.refused("637 instructions", UnsupportedOperationException.class, () -> far.compile(many));
    }

    private static void mostBlocks() {
        TypedMill fits = new TypedMill();
        int lambda = Build.lambda(fits, Build.functionType(fits, 0, 0), Build.variable(fits, 0));
        int nineteen = Build.choices(fits, 19, Build.constant(fits, 1));
        int program = Build.first(fits, Build.pair(fits, nineteen, lambda));
        Expect.due("40 blocks", fits.compile(program), 96 + 9 + 11);
        Expect.yes("there is block 39", fits.look(39, 0) >= 0);
        Expect.due("check()", fits.check(), -1);
        TypedMill over = new TypedMill();
        int twenty = Build.choices(over, 20, Build.constant(over, 1));
        Expect.refused("41 blocks by a CHOICE", UnsupportedOperationException.class, () -> over.compile(twenty));
        TypedMill called = new TypedMill();
        int same = Build.lambda(called, Build.functionType(called, 0, 0), Build.variable(called, 0));
        int call = Build.call(called, same, Build.choices(called, 19, Build.constant(called, 1)));
        Expect.refused("41 blocks by a CALL", UnsupportedOperationException.class, () -> called.compile(call));
        TypedMill functions = new TypedMill();
        int last = Build.lambda(functions, Build.functionType(functions, 0, 0), Build.variable(functions, 0));
        int most = Build.choices(functions, 19, Build.constant(functions, 1));
        int two = Build.first(functions, Build.pair(functions, most, Build.pair(functions, last, last)));
        Expect.refused("41 blocks by a LAMBDA", UnsupportedOperationException.class, () -> functions.compile(two));
    }

    private static void refusals() {
        TypedMill mill = new TypedMill();
        int one = Build.constant(mill, 1);
        int pair = Build.pair(mill, one, one);
        int free = Build.variable(mill, 0);
        int wrong = Build.first(mill, one);
        int large = Build.sum(mill, 128, one);
        mill.block(0, -1, -1);
        Build.code(mill, Build.i(0, 2, 9), Build.i(4, 3, 2, 2));
        mill.run(2);
        refuseAll(mill, new int[] {pair, free, wrong}, large);
        Expect.due("code by hand can still be added to", mill.add(12, 0, 0, 0), 3);
        mill.compile(one);
        mill.run(1);
        refuseAll(mill, new int[] {pair, free, wrong}, large);
        Expect.due("compiled code can still not be added to", mill.add(12, 0, 0, 0), -1);
        Expect.due("check()", mill.check(), -1);
    }

    private static void refuseAll(TypedMill mill, int[] others, int large) {
        String code = Build.listing(mill);
        String machine = Build.machine(mill);
        int[] absent = {-1, 40, large + 1, Integer.MIN_VALUE, Integer.MAX_VALUE};
        for (int e : absent) {
            Expect.refused("compile(" + e + ")", NoSuchElementException.class, () -> mill.compile(e));
        }
        for (int e : others) {
            Expect.refused("compile(" + e + ")", IllegalArgumentException.class, () -> mill.compile(e));
        }
        Expect.refused("compile a large one", UnsupportedOperationException.class, () -> mill.compile(large));
        Expect.due("the code stays", Build.listing(mill), code);
        Expect.due("the machine stays", Build.machine(mill), machine);
    }
}
