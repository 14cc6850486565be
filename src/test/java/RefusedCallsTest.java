import java.util.ArrayList;
import java.util.List;
import java.util.function.Consumer;
import java.util.function.ToIntFunction;

/**
 * Every way to be refused, in every state of the code and of the machine: behind a refused call all that other
 * calls tell is as it was before. So it is behind a call that only tells.
 */
final class RefusedCallsTest {
    private static final int MIN = Integer.MIN_VALUE;
    private static final int MAX = Integer.MAX_VALUE;
    private static final String NO = "-1";
    private static final String ABSENT = "throws.NoSuchElementException";
    private static final String NO_PROGRAM = "throws.IllegalArgumentException";
    private static final String TOO_LARGE = "throws.UnsupportedOperationException";
    private static final Things THINGS = new Things(new TypedMill());
    private static int refusals;

    private final String state;
    private final Tells tells;

    private RefusedCallsTest(String state, Consumer<TypedMill> making) {
        this.state = state;
        tells = new Tells(making);
    }

    public static void main(String[] args) {
        for (RefusedCallsTest test : states()) {
            test.types();
            test.expressions();
            test.programs();
            test.code();
            test.tellingCalls();
        }
        for (RefusedCallsTest test : compiledStates()) {
            test.types();
            test.expressions();
            test.programs();
            test.code();
            test.changesOfCompiledCode();
            test.tellingCalls();
        }
        System.out.println(refusals + " refusals");
        Expect.end();
    }

    private void refused(String call, ToIntFunction<TypedMill> ask, String want) {
        refusals++;
        String what = call + ", " + state;
        tells.stay(what, mill -> Expect.due(what, Expect.answer(() -> ask.applyAsInt(mill)), want));
    }

    private static List<RefusedCallsTest> states() {
        List<RefusedCallsTest> made = new ArrayList<>();
        made.add(new RefusedCallsTest("code by hand that goes on", mill -> byHand(mill, 3)));
        made.add(new RefusedCallsTest("code by hand at HALT", mill -> byHand(mill, 1000)));
        made.add(new RefusedCallsTest("code that is STUCK", mill -> {
            withThings(mill);
            mill.block(0, -1, -1);
            Build.code(mill, Build.i(0, 2, 7), Build.i(1, 2, 2, 3), Build.i(12));
            mill.run(1000);
        }));
        made.add(new RefusedCallsTest("code that is FULL", mill -> {
            withThings(mill);
            mill.block(0, -1, -1);
            Build.code(mill, Build.i(4, 2, 1, 1), Build.i(9, 0));
            mill.run(1000);
        }));
        made.add(new RefusedCallsTest("cleared code", mill -> {
            compiled(mill, 3);
            mill.clear();
        }));
        return made;
    }

    private static List<RefusedCallsTest> compiledStates() {
        List<RefusedCallsTest> made = new ArrayList<>();
        made.add(new RefusedCallsTest("compiled code that goes on", mill -> compiled(mill, 5)));
        made.add(new RefusedCallsTest("compiled code at HALT", mill -> compiled(mill, 1000)));
        made.add(new RefusedCallsTest("compiled code, and a compile() that threw", mill -> {
            compiled(mill, 5);
            Expect.due("compile()", Expect.answer(() -> mill.compile(THINGS.highest)), TOO_LARGE);
        }));
        return made;
    }

    private static void withThings(TypedMill mill) {
        Things things = new Things(mill);
        Expect.due("size of the large type", mill.size(things.largeType), 29);
        Expect.due("a program", mill.evaluate(things.program), 1);
    }

    /** Two blocks that are right, and one behind them that is not ended. */
    private static void byHand(TypedMill mill, int steps) {
        withThings(mill);
        mill.block(0, -1, -1);
        Build.code(mill, Build.i(6, 4, 1), Build.i(4, 4, 4, 1), Build.i(7, 3, 4, THINGS.returnType), Build.i(0, 2, 5),
                Build.i(9, 1));
        mill.block(0, 0, -1);
        Build.code(mill, Build.i(3, 2, 2, 2), Build.i(12));
        mill.block(THINGS.pairType, THINGS.largeType, THINGS.functionType);
        Build.code(mill, Build.i(8, 5, 1, 3));
        mill.run(steps);
    }

    private static void compiled(TypedMill mill, int steps) {
        withThings(mill);
        mill.compile(THINGS.program);
        mill.run(steps);
    }

    private void types() {
        int next = THINGS.types;
        for (int kind : new int[] {-1, 0, 5, MIN, MAX}) {
            refused("type() of kind " + kind, m -> m.type(kind, 0, 0, 0), NO);
        }
        for (int absent : new int[] {-2, next, MIN, MAX}) {
            for (int k = 1; k <= 4; k++) {
                int kind = k;
                refused("type() of kind " + kind + " with a " + absent, m -> m.type(kind, absent, 0, 0), NO);
            }
            refused("PAIR with b " + absent, m -> m.type(1, 0, absent, 0), NO);
            refused("FUNCTION with b " + absent, m -> m.type(2, 0, absent, 0), NO);
            refused("CODE with b " + absent, m -> m.type(4, 0, absent, 0), NO);
            refused("CODE with c " + absent, m -> m.type(4, 0, 0, absent), NO);
        }
        refused("PAIR with none in a", m -> m.type(1, -1, 0, 0), NO);
        refused("PAIR with none in b", m -> m.type(1, 0, -1, 0), NO);
        refused("FUNCTION with none in a", m -> m.type(2, -1, 0, 0), NO);
        refused("FUNCTION with none in b", m -> m.type(2, 0, -1, 0), NO);
        refused("RETURN with none in a", m -> m.type(3, -1, 0, 0), NO);
        refused("a PAIR of size 31", m -> m.type(1, THINGS.largeType, 0, 0), NO);
        refused("a FUNCTION of size 31", m -> m.type(2, 0, THINGS.largeType, 0), NO);
        refused("a CODE of size 31", m -> m.type(4, 0, -1, THINGS.largeType), NO);
    }

    private void expressions() {
        int next = THINGS.expressions;
        for (int kind : new int[] {-1, 11, MIN, MAX}) {
            refused("make() of kind " + kind, m -> m.make(kind, 0, 0, 0, 0), NO);
        }
        for (int a : new int[] {-1, 21, MIN, MAX}) {
            refused("VARIABLE " + a, m -> m.make(1, a, 0, 0, 0), NO);
        }
        int[] noFunctions = {-1, 0, THINGS.pairType, THINGS.returnType, THINGS.codeType, THINGS.types, MIN, MAX};
        for (int a : noFunctions) {
            refused("LAMBDA with type " + a, m -> m.make(6, a, 0, 0, 0), NO);
        }
        for (int absent : new int[] {-1, next, MIN, MAX, THINGS.highest}) {
            for (int k = 2; k <= 10; k++) {
                int kind = k;
                int a = THINGS.functionType;
                refused("kind " + kind + " with x " + absent, m -> m.make(kind, a, absent, 0, 0), NO);
            }
            for (int kind : new int[] {2, 3, 4, 5, 7, 8}) {
                refused("kind " + kind + " with y " + absent, m -> m.make(kind, 0, 0, absent, 0), NO);
            }
            refused("CHOICE with z " + absent, m -> m.make(5, 0, 0, 0, absent), NO);
        }
    }

    private void programs() {
        for (int absent : new int[] {-1, THINGS.expressions, MIN, MAX}) {
            refused("evaluate(" + absent + ")", m -> m.evaluate(absent), ABSENT);
            refused("compile(" + absent + ")", m -> m.compile(absent), ABSENT);
        }
        for (int other : new int[] {THINGS.free, THINGS.pair, THINGS.lambda, THINGS.largePair}) {
            refused("evaluate(" + other + "), no program", m -> m.evaluate(other), NO_PROGRAM);
            refused("compile(" + other + "), no program", m -> m.compile(other), NO_PROGRAM);
        }
        refused("compile() of 637 instructions", m -> m.compile(THINGS.highest), TOO_LARGE);
        refused("compile() of 81 blocks", m -> m.compile(THINGS.manyBlocks), TOO_LARGE);
    }

    private void code() {
        for (int absent : new int[] {-2, THINGS.types, MIN, MAX}) {
            refused("block() that asks " + absent + " of 1", m -> m.block(absent, -1, -1), NO);
            refused("block() that asks " + absent + " of 2", m -> m.block(-1, absent, -1), NO);
            refused("block() that asks " + absent + " of 3", m -> m.block(-1, -1, absent), NO);
        }
        for (int operation : new int[] {-1, 13, MIN, MAX}) {
            refused("add() of operation " + operation, m -> m.add(operation, 1, 1, 1), NO);
        }
        for (int wrong : new int[] {0, 6, MIN, MAX}) {
            for (int operation : new int[] {0, 1, 2, 3, 4, 5, 6, 7, 8, 10, 11}) {
                int c = operation == 7 ? THINGS.functionType : 1;
                refused("operation " + operation + " with a " + wrong, m -> m.add(operation, wrong, 1, c), NO);
            }
            for (int operation : new int[] {1, 2, 3, 4, 5, 7, 8}) {
                int c = operation == 7 ? THINGS.functionType : 1;
                refused("operation " + operation + " with b " + wrong, m -> m.add(operation, 1, wrong, c), NO);
            }
            for (int operation : new int[] {1, 2, 3, 4, 8}) {
                refused("operation " + operation + " with c " + wrong, m -> m.add(operation, 1, 1, wrong), NO);
            }
        }
        for (int part : new int[] {-1, 2, MIN, MAX}) {
            refused("LOAD with c " + part, m -> m.add(5, 1, 1, part), NO);
        }
        for (int block : new int[] {-1, 40, MIN, MAX}) {
            refused("NAME of block " + block, m -> m.add(6, 1, block, 0), NO);
            refused("JUMP to block " + block, m -> m.add(9, block, 0, 0), NO);
            refused("BRANCH to block " + block, m -> m.add(10, 1, block, 0), NO);
        }
        for (int type : new int[] {-1, 0, THINGS.pairType, THINGS.codeType, THINGS.types, MIN, MAX}) {
            refused("WRAP with type " + type, m -> m.add(7, 1, 1, type), NO);
        }
        for (int n : new int[] {-1, 1001, MIN, MAX}) {
            refused("run(" + n + ")", m -> m.run(n), NO);
        }
    }

    private void changesOfCompiledCode() {
        refused("block() that asks nothing", m -> m.block(-1, -1, -1), NO);
        refused("block() that asks", m -> m.block(0, THINGS.pairType, THINGS.returnType), NO);
        refused("add() of a SET", m -> m.add(0, 1, 1, 0), NO);
        refused("add() of a WRAP", m -> m.add(7, 1, 1, THINGS.functionType), NO);
        refused("add() of a HALT", m -> m.add(12, 0, 0, 0), NO);
    }

    /** These answer something, but change nothing; so do those that ask for what is not there. */
    private void tellingCalls() {
        tells.stay("telling calls, " + state, mill -> {
            for (int k : new int[] {MIN, -1, 0, 1, 4, 5, 6, 29, 30, 39, 40, 299, 300, MAX}) {
                mill.size(k);
                mill.is(k, 0);
                mill.is(THINGS.pair, k);
                for (int what : new int[] {-1, 0, 1, 5}) {
                    mill.instruction(k, what);
                    mill.look(k, what);
                    mill.register(k, what);
                }
            }
            mill.steps();
            mill.state();
            mill.check();
            mill.run(0);
        });
    }
}
