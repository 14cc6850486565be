/** The boundary cases of checking: each operation with each type, ends, blocks that are there (promise 12). */
final class TermsCheckTest {
    private static final int SET = 0;
    private static final int NEW = 4;
    private static final int LOAD = 5;
    private static final int NAME = 6;
    private static final int WRAP = 7;
    private static final int OPEN = 8;
    private static final int JUMP = 9;
    private static final int BRANCH = 10;
    private static final int GO = 11;
    private static final int HALT = 12;
    private static final int RIGHT = -1;

    private static final int PAIR = 1;
    private static final int RETURN = 2;
    private static final int FUNCTION = 3;

    public static void main(String[] args) {
        everyOperation();
        whatIsSet();
        openedAlike();
        blockZero();
        ends();
        behindAnEnd();
        notEnded();
        theLastBlock();
        blocksThatAreThere();
        hiddenTypesDiffer();
        thirtyTypesAreNoLimit();
        noGreatestSize();
        Expect.end();
    }

    private static int[] i(int... numbers) {
        return numbers;
    }

    private static TypedMill withTypes() {
        TypedMill mill = new TypedMill();
        Expect.due("PAIR", Build.pairType(mill, 0, 0), PAIR);
        Expect.due("RETURN", Build.returnType(mill, 0), RETURN);
        Expect.due("FUNCTION", Build.functionType(mill, 0, 0), FUNCTION);
        return mill;
    }

    /** Block 0 ends at once; block 1 asks these. */
    private static TypedMill second(int one, int two, int three, int[]... instructions) {
        TypedMill mill = withTypes();
        mill.block(-1, -1, -1);
        Build.code(mill, i(SET, 2, 1), i(HALT));
        mill.block(one, two, three);
        Build.code(mill, instructions);
        return mill;
    }

    /** Registers 1 to 5 have NUMBER, RETURN, PAIR, CODE that asks nothing, and no type. */
    private static void right(boolean right, int... instruction) {
        TypedMill mill = second(0, RETURN, PAIR, i(NAME, 4, 0), instruction);
        boolean end = instruction[0] == JUMP || instruction[0] == GO || instruction[0] == HALT;
        if (!end) {
            Build.code(mill, i(SET, 2, 1), i(HALT));
        }
        Expect.due("check() of " + java.util.Arrays.toString(instruction), mill.check(), right ? RIGHT : 1001);
    }

    private static void everyOperation() {
        for (int a = 1; a <= 5; a++) {
            right(true, SET, a, 9);
            right(true, NAME, a, 1);
            right(false, NAME, a, 2);
            right(a == 1, BRANCH, a, 0);
            right(a == 4, GO, a);
            for (int b = 1; b <= 5; b++) {
                right(b == 3, LOAD, a, b, 0);
                right(b == 3, LOAD, a, b, 1);
                right(false, WRAP, a, b, RETURN);
                right(false, WRAP, a, b, FUNCTION);
                for (int c = 1; c <= 5; c++) {
                    for (int operation = 1; operation <= 3; operation++) {
                        right(b == 1 && c == 1, operation, a, b, c);
                    }
                    right(b != 5 && c != 5, NEW, a, b, c);
                    right(c == 2, OPEN, a, b, c);
                }
            }
        }
        right(true, JUMP, 0);
        right(false, JUMP, 2);
        right(false, HALT);
    }

    /** What is set has its new type alone, and the other registers keep theirs. */
    private static void whatIsSet() {
        for (int a = 1; a <= 3; a++) {
            gets(0, a, i(SET, a, 1));
            for (int operation = 1; operation <= 3; operation++) {
                gets(0, a, i(operation, a, 1, 1));
            }
            gets(0, a, i(LOAD, a, 3, 0));
            gets(PAIR, a, i(NEW, a, 1, 1));
        }
    }

    private static void gets(int type, int register, int[] instruction) {
        int[] asked = {0, RETURN, PAIR};
        asked[register - 1] = type;
        TypedMill mill = second(0, RETURN, PAIR, instruction, i(JUMP, 2));
        mill.block(asked[0], asked[1], asked[2]);
        Build.code(mill, i(SET, 2, 1), i(HALT));
        Expect.due("types behind " + java.util.Arrays.toString(instruction), mill.check(), RIGHT);
        for (int other = 0; other <= FUNCTION; other++) {
            TypedMill wrong = second(0, RETURN, PAIR, instruction, i(JUMP, 2));
            int ask = other;
            wrong.block(register == 1 ? ask : -1, register == 2 ? ask : -1, register == 3 ? ask : -1);
            Build.code(wrong, i(SET, 2, 1), i(HALT));
            Expect.due("type " + other + " of " + register, wrong.check(), other == type ? RIGHT : 1001);
        }
    }

    /** With a and b alike the hidden type stands; c may be either. */
    private static void openedAlike() {
        for (int c : new int[] {RETURN, FUNCTION}) {
            int waits = c == FUNCTION ? RETURN : -1;
            Expect.due("b and c alike", second(c, 0, waits, i(OPEN, 5, 1, 1), i(GO, 5)).check(), RIGHT);
            Expect.due("a and c alike: CODE in 1", second(c, 0, waits, i(OPEN, 1, 4, 1), i(GO, 1)).check(), 1001);
            Expect.due("all alike", second(c, 0, waits, i(OPEN, 1, 1, 1), i(GO, 1)).check(), 1001);
            Expect.due("a and b alike", second(c, 0, waits, i(OPEN, 4, 4, 1), i(GO, 4)).check(), 1001);
            Expect.due("a and b alike: b has what it had not", second(c, 0, waits, i(OPEN, 4, 4, 1), i(NEW, 2, 4, 4),
                    i(SET, 2, 1), i(HALT)).check(), RIGHT);
        }
    }

    private static void blockZero() {
        for (int one = -1; one <= FUNCTION; one++) {
            for (int two = -1; two <= 0; two++) {
                for (int three = -1; three <= 0; three++) {
                    TypedMill mill = withTypes();
                    mill.block(one, two, three);
                    Build.code(mill, i(SET, 2, 1), i(HALT));
                    boolean right = one <= 0 && two == -1 && three == -1;
                    Expect.due("block 0 that asks " + one + ", " + two + ", " + three, mill.check(), right ? RIGHT : 0);
                    mill.block(PAIR, FUNCTION, RETURN);
                    Expect.due("with a wrong one behind it", mill.check(), right ? 1000 : 0);
                }
            }
        }
        TypedMill mill = withTypes();
        Expect.due("no block", mill.check(), 0);
        mill.block(-1, -1, -1);
        Expect.due("block 0 without an instruction", mill.check(), 0);
        Build.code(mill, i(1, 2, 2, 2));
        Expect.due("the first instruction of block 0", mill.check(), 0);
    }

    /** JUMP, GO and HALT end a block, and only they. */
    private static void ends() {
        int[][] all = {i(SET, 5, 1), i(1, 5, 1, 1), i(2, 5, 1, 1), i(3, 5, 1, 1), i(NEW, 5, 1, 1), i(LOAD, 5, 3, 0),
            i(NAME, 5, 0), i(OPEN, 5, 4, 2), i(BRANCH, 1, 0)};
        for (int[] one : all) {
            Expect.due("operation " + one[0] + " at the end", second(0, RETURN, PAIR, one).check(), 1001);
        }
        TypedMill wraps = second(0, 0, -1, i(NAME, 4, 1), i(NEW, 4, 4, 1), i(WRAP, 4, 4, RETURN));
        Expect.due("WRAP at the end", wraps.check(), 1003);
        wraps.add(HALT, 0, 0, 0);
        Expect.due("HALT behind it", wraps.check(), RIGHT);
        Expect.due("JUMP at the end", second(0, RETURN, PAIR, i(JUMP, 0)).check(), RIGHT);
        Expect.due("GO at the end", second(0, RETURN, PAIR, i(NAME, 5, 0), i(GO, 5)).check(), RIGHT);
        Expect.due("HALT at the end", second(-1, 0, -1, i(HALT)).check(), RIGHT);
    }

    /** What stands behind an end is the wrong one, whatever it is. */
    private static void behindAnEnd() {
        int[][] endings = {i(JUMP, 0), i(GO, 3), i(HALT)};
        for (int[] end : endings) {
            for (int[] behind : new int[][] {i(SET, 2, 1), i(JUMP, 0), i(HALT), i(1, 1, 5, 5)}) {
                TypedMill mill = second(-1, 0, -1, i(NAME, 3, 0), end, behind, i(HALT));
                Expect.due("operation " + behind[0] + " behind " + end[0], mill.check(), 1002);
            }
        }
    }

    /** How many it has, when it is not ended: 0, 1, 2, .. all 300. */
    private static void notEnded() {
        TypedMill mill = withTypes();
        mill.block(-1, -1, -1);
        for (int k = 0; k <= 300; k++) {
            if (k < 3 || k > 298) {
                Expect.due("a block of " + k, mill.check(), k);
            }
            Expect.due("one more", mill.add(SET, 2, k, 0), k < 300 ? k + 1 : -1);
        }
    }

    /** The greatest block, 39, and its last instruction. */
    private static void theLastBlock() {
        TypedMill mill = withTypes();
        mill.block(-1, -1, -1);
        Build.code(mill, i(SET, 2, 1), i(HALT));
        for (int k = 1; k < 39; k++) {
            mill.block(-1, 0, -1);
            Build.code(mill, i(HALT));
        }
        Expect.due("39 blocks", mill.check(), RIGHT);
        mill.block(-1, 0, -1);
        Expect.due("an empty last one", mill.check(), 39000);
        for (int k = 0; k < 259; k++) {
            mill.add(SET, 2, k, 0);
        }
        Expect.due("one with 259", mill.check(), 39259);
        Expect.due("the 300th", mill.add(HALT, 0, 0, 0), 300);
        Expect.due("ended", mill.check(), RIGHT);
    }

    /** The last block is there, and the next is not: for NAME, JUMP and BRANCH, from block 0 and from itself. */
    private static void blocksThatAreThere() {
        for (int to = 0; to <= 39; to++) {
            int want = to <= 1 ? RIGHT : 1000;
            Expect.due("NAME of " + to, second(-1, 0, -1, i(NAME, 5, to), i(HALT)).check(), want);
            Expect.due("JUMP to " + to, second(-1, 0, -1, i(JUMP, to)).check(), want);
            Expect.due("BRANCH to " + to, second(-1, 0, -1, i(BRANCH, 2, to), i(HALT)).check(), want);
        }
        TypedMill mill = withTypes();
        mill.block(-1, -1, -1);
        Build.code(mill, i(NAME, 5, 39), i(JUMP, 39));
        for (int k = 1; k < 39; k++) {
            mill.block(-1, 0, -1);
            Build.code(mill, i(HALT));
        }
        Expect.due("block 39 is not there", mill.check(), 0);
        mill.block(-1, -1, -1);
        Build.code(mill, i(SET, 2, 1), i(HALT));
        Expect.due("block 39 is there", mill.check(), RIGHT);
    }

    /** Two OPENs of the same register have two hidden types, also in two blocks that are alike. */
    private static void hiddenTypesDiffer() {
        Expect.due("the block of one, the rest of the other", second(RETURN, 0, -1, i(OPEN, 4, 3, 1),
                i(OPEN, 5, 1, 1), i(GO, 4)).check(), 1002);
        Expect.due("both of the first", second(RETURN, 0, -1, i(OPEN, 4, 3, 1), i(OPEN, 5, 5, 1), i(NEW, 5, 4, 3),
                i(LOAD, 1, 5, 1), i(GO, 4)).check(), RIGHT);
        Expect.due("a hidden type can be in a PAIR", second(RETURN, 0, -1, i(OPEN, 4, 3, 1), i(NEW, 5, 3, 3),
                i(LOAD, 1, 5, 0), i(GO, 4)).check(), RIGHT);
        Expect.due("no type of the user's is a hidden one", second(RETURN, 0, -1, i(OPEN, 4, 1, 1), i(SET, 1, 0),
                i(GO, 4)).check(), 1002);
        Expect.due("nor is no type", second(RETURN, 0, -1, i(OPEN, 4, 5, 1), i(GO, 4)).check(), 1001);
    }

    /** Checking, typing and compiling need types of their own: thirty of the user's do not stand in their way. */
    private static void thirtyTypesAreNoLimit() {
        TypedMill mill = withTypes();
        int last = FUNCTION;
        for (int k = FUNCTION + 1; k < 30; k++) {
            last = mill.type(k < 16 ? 3 : 4, k < 16 ? last : k - 16, -1, -1);
            Expect.due("type " + k, last, k);
        }
        Expect.due("one more", mill.type(1, 0, PAIR, 0), -1);
        int one = Build.constant(mill, 1);
        int pair = Build.pair(mill, one, one);
        int nested = Build.pair(mill, Build.pair(mill, pair, one), one);
        Expect.due("an expression of no kept type", mill.evaluate(Build.second(mill, nested)), 1);
        int square = Build.lambda(mill, FUNCTION, Build.times(mill, Build.variable(mill, 0), Build.variable(mill, 0)));
        int program = Build.call(mill, square, Build.second(mill, nested));
        Expect.yes("it compiles", mill.compile(program) > 0);
        Expect.due("to code that is right", mill.check(), RIGHT);
        mill.clear();
        mill.block(0, -1, -1);
        Build.code(mill, i(NAME, 4, 1), i(NEW, 4, 4, 1), i(WRAP, 3, 4, FUNCTION), i(OPEN, 5, 4, 3), i(NEW, 1, 4, 5),
                i(SET, 2, 1), i(HALT));
        mill.block(0, 0, RETURN);
        Build.code(mill, i(HALT));
        Expect.due("code by hand is right, too", mill.check(), RIGHT);
        Expect.due("no type has come", mill.size(30), -1);
    }

    /** Sizes of 30, 31 and far above: PAIRs of PAIRs, opened again to a NUMBER. */
    private static void noGreatestSize() {
        for (int pairs : new int[] {1, 4, 29, 30, 31, 64, 147}) {
            TypedMill mill = second(0, -1, -1);
            for (int k = 0; k < pairs; k++) {
                mill.add(NEW, 1, 1, 1);
            }
            for (int k = 0; k < pairs; k++) {
                mill.add(LOAD, 1, 1, k % 2);
            }
            Build.code(mill, i(1, 2, 1, 1), i(HALT));
            Expect.due("a NUMBER in " + pairs + " PAIRs", mill.check(), RIGHT);
        }
        TypedMill mill = second(0, -1, -1);
        for (int k = 0; k < 140; k++) {
            mill.add(NEW, 1, 1, 1);
        }
        for (int k = 0; k < 139; k++) {
            mill.add(LOAD, 1, 1, 1);
        }
        Build.code(mill, i(1, 2, 1, 1), i(HALT));
        Expect.due("a PAIR in 139 PAIRs", mill.check(), 1279);
    }
}
