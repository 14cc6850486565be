/** Promise 12: check. Each case is a first block that asks nothing but what it is told to ask. */
final class P12CheckTest {
    private static final int SET = 0;
    private static final int NEW = 4;
    private static final int LOAD = 5;
    private static final int NAME = 6;
    private static final int WRAP = 7;
    private static final int OPEN = 8;
    private static final int JUMP = 9;
    private static final int BRANCH = 10;
    private static final int GO = 11;
    private static final int HALT = 12;

    private static TypedMill mill;
    private static int pair;
    private static int function;
    private static int waits;

    public static void main(String[] args) {
        blockZero();
        endings();
        numbers();
        pairs();
        jumps();
        goes();
        wraps();
        opens();
        hiddenTypes();
        firstWrongOne();
        largestCode();
        Expect.end();
    }

    private static int[] i(int... numbers) {
        return numbers;
    }

    private static void begin() {
        mill = new TypedMill();
        pair = Build.pairType(mill, 0, 0);
        function = Build.functionType(mill, 0, 0);
        waits = Build.returnType(mill, 0);
    }

    /** Block 0 does nothing but end, block 1 asks these and has the instructions. */
    private static void second(int one, int two, int three, int[]... instructions) {
        mill.clear();
        mill.block(-1, -1, -1);
        Build.code(mill, i(SET, 2, 0), i(HALT));
        mill.block(one, two, three);
        Build.code(mill, instructions);
    }

    private static void due(String what, int want) {
        Expect.due(what, mill.check(), want);
        Expect.due(what + ", again", mill.check(), want);
    }

    private static void blockZero() {
        begin();
        due("no block", 0);
        int[][] asked = {{-1, -1, -1}, {0, -1, -1}, {pair, -1, -1}, {-1, 0, -1}, {-1, -1, 0}, {0, 0, 0}};
        int[] want = {-1, -1, 0, 0, 0, 0};
        for (int k = 0; k < asked.length; k++) {
            mill.clear();
            mill.block(asked[k][0], asked[k][1], asked[k][2]);
            Build.code(mill, i(SET, 2, 1), i(HALT));
            due("block 0 that asks " + k, want[k]);
        }
        mill.clear();
        mill.block(-1, -1, -1);
        Build.code(mill, i(NEW, 2, 1, 1), i(SET, 2, 1), i(HALT));
        due("register 1 without being asked", 0);
        mill.clear();
        mill.block(0, -1, -1);
        Build.code(mill, i(NEW, 2, 1, 1), i(SET, 2, 1), i(HALT));
        due("register 1 when it was asked", -1);
    }

    private static void endings() {
        begin();
        mill.block(-1, -1, -1);
        due("an empty block", 0);
        Build.code(mill, i(SET, 2, 1));
        due("a block that is not ended", 1);
        Build.code(mill, i(BRANCH, 2, 0));
        due("BRANCH ends nothing", 2);
        Build.code(mill, i(HALT));
        due("HALT ends", -1);
        Build.code(mill, i(HALT));
        due("a second HALT", 3);
        second(-1, -1, -1);
        due("an empty block behind", 1000);
        second(-1, -1, -1, i(JUMP, 0), i(SET, 1, 1));
        due("behind a JUMP", 1001);
        second(-1, -1, -1, i(NAME, 1, 0), i(GO, 1), i(SET, 1, 1));
        due("behind a GO", 1002);
        second(-1, -1, -1, i(HALT));
        due("HALT without a type in 2", 1000);
        second(-1, pair, -1, i(HALT));
        due("HALT with a PAIR in 2", 1000);
        second(-1, 0, -1, i(HALT));
        due("HALT with NUMBER in 2", -1);
    }

    private static void numbers() {
        begin();
        for (int operation = 1; operation <= 3; operation++) {
            second(0, 0, -1, i(operation, 2, 1, 2), i(HALT));
            due("operation " + operation, -1);
            second(0, 0, -1, i(operation, 2, 1, 3), i(HALT));
            due("operation " + operation + " with no type in c", 1000);
            second(0, 0, -1, i(operation, 2, 5, 1), i(HALT));
            due("operation " + operation + " with no type in b", 1000);
            second(pair, 0, -1, i(operation, 2, 1, 2), i(HALT));
            due("operation " + operation + " with a PAIR in b", 1000);
            second(pair, 0, -1, i(operation, 2, 2, 1), i(HALT));
            due("operation " + operation + " with a PAIR in c", 1000);
            second(0, pair, -1, i(operation, 2, 1, 1), i(HALT));
            due("operation " + operation + " gives a number", -1);
        }
        second(-1, pair, -1, i(SET, 2, 1), i(HALT));
        due("SET gives a number", -1);
    }

    private static void pairs() {
        begin();
        second(0, waits, -1, i(NEW, 3, 1, 2), i(LOAD, 4, 3, 0), i(LOAD, 5, 3, 1), i(JUMP, 2));
        mill.block(0, waits, -1);
        Build.code(mill, i(SET, 2, 1), i(HALT));
        due("NEW and LOAD", -1);
        second(0, waits, -1, i(NEW, 3, 1, 2), i(LOAD, 2, 3, 0), i(HALT));
        due("LOAD of the first part", -1);
        second(waits, 0, -1, i(NEW, 3, 1, 2), i(LOAD, 2, 3, 0), i(HALT));
        due("LOAD of a first part that is no number", 1002);
        second(waits, 0, -1, i(NEW, 3, 1, 2), i(LOAD, 2, 3, 1), i(HALT));
        due("LOAD of the second part", -1);
        second(0, -1, -1, i(NEW, 3, 1, 2), i(SET, 2, 1), i(HALT));
        due("NEW with no type in c", 1000);
        second(0, -1, -1, i(NEW, 3, 2, 1), i(SET, 2, 1), i(HALT));
        due("NEW with no type in b", 1000);
        second(0, 0, -1, i(LOAD, 3, 1, 0), i(HALT));
        due("LOAD from a number", 1000);
        second(function, 0, -1, i(LOAD, 3, 1, 0), i(HALT));
        due("LOAD from a FUNCTION", 1000);
        second(-1, 0, -1, i(LOAD, 3, 1, 0), i(HALT));
        due("LOAD from nothing", 1000);
    }

    private static void jumps() {
        begin();
        second(0, pair, -1, i(JUMP, 1));
        due("JUMP to itself", -1);
        second(0, pair, -1, i(JUMP, 2));
        due("JUMP to a block that is not there", 1000);
        second(0, pair, -1, i(SET, 1, 2), i(JUMP, 0));
        due("JUMP to one that asks nothing", -1);
        int[][] asked = {{0, pair, -1}, {-1, -1, -1}, {pair, pair, -1}, {0, 0, -1}, {0, pair, 0}};
        int[] want = {-1, -1, 1000, 1000, 1000};
        for (int k = 0; k < asked.length; k++) {
            second(0, pair, -1, i(JUMP, 2));
            mill.block(asked[k][0], asked[k][1], asked[k][2]);
            Build.code(mill, i(SET, 2, 1), i(HALT));
            due("JUMP to one that asks " + k, want[k]);
            second(0, pair, -1, i(BRANCH, 1, 2), i(JUMP, 0));
            mill.block(asked[k][0], asked[k][1], asked[k][2]);
            Build.code(mill, i(SET, 2, 1), i(HALT));
            due("BRANCH to one that asks " + k, want[k]);
        }
        int[] third = {waits, 0};
        for (int k = 0; k < 2; k++) {
            second(0, pair, waits, i(BRANCH, 1, 2), i(JUMP, 2));
            mill.block(-1, -1, third[k]);
            Build.code(mill, i(SET, 2, 1), i(HALT));
            due("JUMP and BRANCH to one that asks " + third[k] + " of 3", k == 0 ? -1 : 1000);
        }
        second(0, pair, -1, i(BRANCH, 2, 0), i(JUMP, 0));
        due("BRANCH by a PAIR", 1000);
        second(0, pair, -1, i(BRANCH, 5, 0), i(JUMP, 0));
        due("BRANCH by nothing", 1000);
        second(0, pair, -1, i(BRANCH, 1, 2), i(JUMP, 0));
        due("BRANCH to a block that is not there", 1000);
        second(0, 0, -1, i(BRANCH, 1, 0), i(HALT));
        due("types stay behind a BRANCH", -1);
    }

    private static void goes() {
        begin();
        second(0, pair, -1, i(NAME, 5, 1), i(GO, 5));
        due("GO to itself", -1);
        second(0, pair, -1, i(NAME, 5, 2), i(GO, 5));
        due("NAME of a block that is not there", 1000);
        second(0, pair, -1, i(NAME, 5, 1), i(SET, 2, 1), i(GO, 5));
        due("GO with the wrong type in 2", 1002);
        second(0, pair, -1, i(NAME, 1, 1), i(GO, 1));
        due("GO with the block itself in 1", 1001);
        second(0, pair, -1, i(GO, 1));
        due("GO to a number", 1000);
        second(0, pair, -1, i(GO, 5));
        due("GO to nothing", 1000);
        int asks = Build.codeType(mill, 0, -1, pair);
        second(0, asks, pair, i(GO, 2));
        due("GO by a type that was asked", -1);
        second(0, asks, -1, i(GO, 2));
        due("GO by one that asks more", 1000);
        int nothing = Build.codeType(mill, -1, -1, -1);
        second(-1, nothing, -1, i(GO, 2));
        due("GO to one that asks nothing", -1);
        second(0, -1, -1, i(NAME, 2, 2), i(JUMP, 3));
        mill.block(0, -1, pair);
        Build.code(mill, i(SET, 2, 1), i(HALT));
        mill.block(0, asks, -1);
        Build.code(mill, i(SET, 2, 1), i(HALT));
        due("what NAME gives is the CODE that is asked", -1);
    }

    /** Block 1 makes a pair of block 2 and a number, wraps it, and ends. */
    private static void wrap(int one, int two, int three, int type, int want) {
        second(-1, -1, -1, i(SET, 1, 5), i(NAME, 4, 2), i(NEW, 4, 4, 1), i(WRAP, 3, 4, type), i(SET, 2, 1), i(HALT));
        mill.block(one, two, three);
        Build.code(mill, i(SET, 2, 1), i(HALT));
        due("WRAP with " + type + " of CODE " + one + " " + two + " " + three, want);
    }

    private static void wraps() {
        begin();
        wrap(0, 0, waits, function, -1);
        wrap(-1, 0, waits, function, 1003);
        wrap(pair, 0, waits, function, 1003);
        wrap(0, -1, waits, function, 1003);
        wrap(0, pair, waits, function, 1003);
        wrap(0, 0, -1, function, 1003);
        wrap(0, 0, 0, function, 1003);
        wrap(0, 0, Build.returnType(mill, pair), function, 1003);
        wrap(0, 0, -1, waits, -1);
        wrap(0, 0, waits, waits, 1003);
        wrap(0, 0, 0, waits, 1003);
        wrap(0, -1, -1, waits, 1003);
        wrap(0, pair, -1, waits, 1003);
        wrap(-1, 0, -1, waits, 1003);
        wrap(pair, 0, -1, waits, 1003);
        wrap(0, pair, waits, Build.functionType(mill, pair, 0), -1);
        wrap(0, 0, Build.returnType(mill, pair), Build.functionType(mill, 0, pair), -1);
        wrap(0, pair, -1, Build.returnType(mill, pair), -1);
        second(pair, -1, -1, i(WRAP, 1, 1, waits), i(SET, 2, 1), i(HALT));
        due("WRAP of a PAIR of numbers", 1000);
        second(waits, -1, -1, i(WRAP, 1, 1, waits), i(SET, 2, 1), i(HALT));
        due("WRAP of what is wrapped", 1000);
        second(-1, -1, -1, i(WRAP, 1, 1, waits), i(SET, 2, 1), i(HALT));
        due("WRAP of nothing", 1000);
        second(-1, -1, -1, i(SET, 1, 5), i(NAME, 4, 2), i(NEW, 4, 4, 1), i(WRAP, 1, 4, waits), i(SET, 2, 1),
                i(JUMP, 3));
        mill.block(0, 0, -1);
        Build.code(mill, i(HALT));
        mill.block(waits, -1, -1);
        Build.code(mill, i(SET, 2, 1), i(HALT));
        due("WRAP gives its type", -1);
    }

    private static void opens() {
        begin();
        second(function, 0, waits, i(OPEN, 5, 1, 1), i(GO, 5));
        due("OPEN of a FUNCTION", -1);
        second(function, 0, -1, i(OPEN, 5, 1, 1), i(GO, 5));
        due("without what waits", 1001);
        second(function, pair, waits, i(OPEN, 5, 1, 1), i(GO, 5));
        due("with the wrong argument", 1001);
        second(function, 0, Build.returnType(mill, pair), i(OPEN, 5, 1, 1), i(GO, 5));
        due("with the wrong one waiting", 1001);
        second(function, 0, waits, i(OPEN, 5, 4, 1), i(GO, 5));
        due("with the FUNCTION in 1", 1001);
        second(waits, 0, -1, i(OPEN, 5, 1, 1), i(GO, 5));
        due("OPEN of a RETURN", -1);
        second(waits, pair, -1, i(OPEN, 5, 1, 1), i(GO, 5));
        due("with the wrong value", 1001);
        second(pair, 0, -1, i(OPEN, 5, 1, 1), i(GO, 5));
        due("OPEN of a PAIR", 1000);
        second(0, 0, -1, i(OPEN, 5, 1, 1), i(GO, 5));
        due("OPEN of a number", 1000);
        second(-1, 0, -1, i(OPEN, 5, 1, 1), i(GO, 5));
        due("OPEN of nothing", 1000);
        second(waits, 0, -1, i(OPEN, 1, 1, 1), i(GO, 1));
        due("OPEN with a and b alike: the hidden one stands", 1001);
        second(waits, 0, -1, i(OPEN, 5, 1, 1), i(NEW, 3, 5, 1), i(LOAD, 4, 3, 0), i(LOAD, 1, 3, 1), i(GO, 4));
        due("both kept in a pair", -1);
    }

    private static void hiddenTypes() {
        begin();
        second(waits, 0, waits, i(OPEN, 5, 1, 1), i(OPEN, 4, 3, 3), i(GO, 4));
        due("the hidden type of another OPEN", 1002);
        second(waits, 0, -1, i(OPEN, 5, 4, 1), i(OPEN, 5, 1, 1), i(GO, 5));
        due("the later OPEN of one register", -1);
        second(waits, 0, -1, i(OPEN, 5, 3, 1), i(OPEN, 4, 1, 1), i(GO, 5));
        due("of one RETURN opened twice", 1002);
        second(waits, 0, -1, i(OPEN, 5, 1, 1), i(JUMP, 2));
        mill.block(0, -1, -1);
        Build.code(mill, i(SET, 2, 1), i(HALT));
        due("a hidden type is no number", 1001);
        second(waits, 0, -1, i(OPEN, 5, 1, 1), i(NEW, 4, 5, 1), i(WRAP, 1, 4, waits), i(OPEN, 5, 1, 1), i(GO, 5));
        due("wrapped again", -1);
        second(function, 0, waits, i(OPEN, 5, 1, 1), i(NEW, 4, 5, 1), i(WRAP, 1, 4, waits), i(SET, 2, 1), i(HALT));
        due("wrapped again with another type", 1002);
        second(waits, 0, -1, i(OPEN, 5, 1, 1), i(LOAD, 1, 1, 0), i(HALT));
        due("a hidden type has no parts", 1001);
    }

    private static void firstWrongOne() {
        begin();
        mill.block(-1, -1, -1);
        Build.code(mill, i(SET, 2, 1), i(HALT));
        for (int k = 1; k < 40; k++) {
            mill.block(-1, -1, -1);
        }
        due("the first of many empty ones", 1000);
        mill.clear();
        for (int k = 0; k < 40; k++) {
            mill.block(-1, -1, -1);
            Build.code(mill, i(SET, 2, k), k == 39 ? i(GO, 2) : i(HALT));
        }
        due("the last block", 39001);
        mill.clear();
        mill.block(-1, -1, -1);
        Build.code(mill, i(SET, 2, 1), i(LOAD, 2, 2, 0), i(LOAD, 2, 2, 0));
        mill.block(-1, -1, -1);
        due("the first of its instructions", 1);
    }

    /** Three hundred instructions that each make as many types as they can. */
    private static void largestCode() {
        begin();
        mill.block(0, -1, -1);
        for (int k = 0; k < 298; k++) {
            mill.add(NEW, 1, 1, 1);
        }
        Build.code(mill, i(SET, 2, 1), i(HALT));
        due("a type of size 2 to the 298th", -1);
        begin();
        second(function, 0, waits);
        for (int k = 0; k < 297; k++) {
            mill.add(OPEN, 5, 4, 1);
        }
        Build.code(mill, i(GO, 5));
        due("297 OPENs, the FUNCTION in 1", 1297);
        begin();
        second(function, 0, waits);
        for (int k = 0; k < 296; k++) {
            mill.add(OPEN, 5, 4, 1);
        }
        Build.code(mill, i(OPEN, 5, 1, 1), i(GO, 5));
        due("297 OPENs", -1);
    }
}
