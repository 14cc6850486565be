/** Promise 15: run, with what each instruction does. */
final class P15RunTest {
    private static final int MIN = Integer.MIN_VALUE;
    private static final int MAX = Integer.MAX_VALUE;
    private static TypedMill mill;

    public static void main(String[] args) {
        howMany();
        numbers();
        pairs();
        wrapped();
        goingOn();
        readAheadOfSet();
        Expect.end();
    }

    private static int[] i(int... numbers) {
        return numbers;
    }

    /** Runs the instructions in one block that has no end, and one more: it is STUCK there. */
    private static void runs(String what, String want, int[]... instructions) {
        mill.clear();
        mill.block(-1, -1, -1);
        Build.code(mill, instructions);
        Expect.due("how many of " + what, mill.run(1000), instructions.length);
        Expect.due("the machine behind " + what, Build.machine(mill), want);
    }

    /** Runs them; the last one can not be done, for the reason that is given, and changes nothing. */
    private static void stops(String what, int state, int[]... instructions) {
        mill.clear();
        mill.block(-1, -1, -1);
        Build.code(mill, instructions);
        int good = instructions.length - 1;
        Expect.due("how many ahead of " + what, mill.run(good), good);
        String before = Build.machine(mill);
        Expect.due("it goes on ahead of " + what, mill.state(), 0);
        Expect.due("run(1) of " + what, mill.run(1), 0);
        Expect.due("state behind " + what, mill.state(), state);
        Expect.due("nothing is done of " + what, Build.machine(mill).substring(1), before.substring(1));
        Expect.due("run() from then on", mill.run(1000), 0);
    }

    private static void howMany() {
        mill = new TypedMill();
        mill.block(-1, -1, -1);
        Build.code(mill, i(9, 0));
        int[] wrong = {-1, 1001, MIN, MAX};
        for (int n : wrong) {
            Expect.due("run(" + n + ")", mill.run(n), -1);
        }
        int[] right = {0, 1, 7, 1000};
        for (int n : right) {
            Expect.due("run(" + n + ")", mill.run(n), n);
        }
        mill.clear();
        Expect.due("run(0) without a block", mill.run(0), 0);
        Expect.due("nothing is found", mill.state(), 0);
        Expect.due("run(2) without a block", mill.run(2), 0);
        Expect.due("it is STUCK", mill.state(), 2);
        Expect.due("run(-1) when it is STUCK", mill.run(-1), -1);
        Expect.due("run(1001) when it is STUCK", mill.run(1001), -1);
        mill.block(-1, -1, -1);
        Expect.due("run(1) of an empty block", mill.run(1), 0);
        Expect.due("it is STUCK, too", mill.state(), 2);
        Build.code(mill, i(0, 1, 3), i(12), i(0, 1, 4));
        Expect.due("HALT counts", mill.run(1000), 2);
        Expect.due("nothing behind it is done", mill.register(1, 1), 3);
        Expect.due("run() behind HALT", mill.run(1000), 0);
    }

    private static void numbers() {
        mill = new TypedMill();
        runs("SET", "2: 1/0 0/0 1/-9 0/0 0/0", i(0, 3, -9));
        runs("ADD", "2: 1/0 1/7 1/-9 1/-2 0/0", i(0, 2, 7), i(0, 3, -9), i(1, 4, 2, 3));
        runs("SUB", "2: 1/0 1/7 1/-9 1/16 0/0", i(0, 2, 7), i(0, 3, -9), i(2, 4, 2, 3));
        runs("MUL", "2: 1/0 1/7 1/-9 0/0 1/-63", i(0, 2, 7), i(0, 3, -9), i(3, 5, 2, 3));
        runs("ADD that wraps", "2: 1/" + MIN + " 1/" + MAX + " 1/1 0/0 0/0", i(0, 2, MAX), i(0, 3, 1), i(1, 1, 2, 3));
        for (int operation = 1; operation <= 3; operation++) {
            stops("operation " + operation + " with b EMPTY", 2, i(operation, 1, 2, 1));
            stops("operation " + operation + " with c EMPTY", 2, i(operation, 1, 1, 2));
            stops("operation " + operation + " with b a pair", 2, i(4, 2, 1, 1), i(operation, 1, 2, 1));
            stops("operation " + operation + " with c a block", 2, i(6, 2, 0), i(operation, 1, 1, 2));
        }
    }

    private static void pairs() {
        mill = new TypedMill();
        runs("NEW", "2: 1/0 3/0 3/1 0/0 0/0", i(4, 2, 1, 1), i(4, 3, 2, 1));
        runs("LOAD", "2: 1/0 1/8 3/0 1/0 1/8", i(0, 2, 8), i(4, 3, 1, 2), i(5, 4, 3, 0), i(5, 5, 3, 1));
        runs("LOAD of a pair and a block", "2: 2/0 3/0 3/1 3/0 2/0", i(4, 2, 1, 1), i(6, 1, 0), i(4, 3, 2, 1),
                i(5, 4, 3, 0), i(5, 5, 3, 1));
        stops("NEW with b EMPTY", 2, i(4, 1, 2, 1));
        stops("NEW with c EMPTY", 2, i(4, 1, 1, 2));
        stops("LOAD from EMPTY", 2, i(5, 1, 2, 0));
        stops("LOAD from a number", 2, i(5, 1, 1, 0));
        stops("LOAD from a block", 2, i(6, 1, 0), i(5, 1, 1, 0));
        int waits = Build.returnType(mill, 0);
        stops("LOAD from a wrapped pair", 2, i(4, 2, 1, 1), i(7, 2, 2, waits), i(5, 1, 2, 0));
    }

    private static void wrapped() {
        mill = new TypedMill();
        int waits = Build.returnType(mill, 0);
        int function = Build.functionType(mill, 0, 0);
        int[][] make = {i(6, 4, 7), i(0, 1, 5), i(4, 4, 4, 1), i(7, 3, 4, function)};
        runs("NAME and WRAP", "2: 1/5 0/0 4/0 3/0 0/0", make);
        runs("OPEN", "2: 1/5 1/5 4/0 3/0 2/7", make[0], make[1], make[2], make[3], i(8, 5, 2, 3));
        runs("OPEN with a and b alike", "2: 1/5 1/5 4/0 3/0 0/0", make[0], make[1], make[2], make[3], i(8, 2, 2, 3));
        runs("OPEN with a and c alike", "2: 1/5 1/5 2/7 3/0 0/0", make[0], make[1], make[2], make[3], i(8, 3, 2, 3));
        runs("OPEN with b and c alike", "2: 1/5 2/7 1/5 3/0 0/0", make[0], make[1], make[2], make[3], i(8, 2, 3, 3));
        runs("OPEN with all alike", "2: 1/5 0/0 1/5 3/0 0/0", make[0], make[1], make[2], make[3], i(8, 3, 3, 3));
        runs("WRAP into itself", "2: 1/0 4/0 0/0 0/0 0/0", i(4, 2, 1, 1), i(7, 2, 2, waits));
        stops("WRAP of EMPTY", 2, i(7, 1, 2, waits));
        stops("WRAP of a number", 2, i(7, 1, 1, waits));
        stops("WRAP of what is wrapped", 2, i(4, 2, 1, 1), i(7, 2, 2, waits), i(7, 2, 2, waits));
        stops("OPEN of EMPTY", 2, i(8, 1, 1, 2));
        stops("OPEN of a number", 2, i(8, 1, 1, 1));
        stops("OPEN of a block", 2, i(6, 2, 0), i(8, 1, 1, 2));
        stops("OPEN of a pair", 2, i(6, 2, 0), i(4, 2, 2, 2), i(8, 1, 1, 2));
        stops("OPEN of a wrapped pair without a block", 2, i(4, 2, 1, 1), i(7, 2, 2, waits), i(8, 4, 5, 2));
        stops("OPEN with the block in the second part", 2, i(6, 2, 0), i(4, 2, 1, 2), i(7, 2, 2, waits), i(8, 4, 5, 2));
    }

    private static void goingOn() {
        mill = new TypedMill();
        mill.block(-1, -1, -1);
        Build.code(mill, i(0, 2, 3), i(9, 2), i(12));
        mill.block(-1, -1, -1);
        Build.code(mill, i(0, 5, 1), i(12));
        mill.block(-1, -1, -1);
        Build.code(mill, i(0, 3, 1), i(2, 2, 2, 3), i(10, 2, 2), i(6, 4, 1), i(11, 4));
        Expect.due("JUMP, BRANCH and GO", mill.run(1000), 2 + 3 * 3 + 2 + 2);
        Expect.due("the machine", Build.machine(mill), "1: 1/0 1/0 1/1 2/1 1/1");
        stops("JUMP to no block", 2, i(9, 1));
        stops("BRANCH to no block", 2, i(0, 2, -1), i(10, 2, 39));
        stops("BRANCH by EMPTY", 2, i(10, 2, 0));
        stops("BRANCH by a block", 2, i(6, 2, 0), i(10, 2, 0));
        stops("GO by EMPTY", 2, i(11, 2));
        stops("GO by a number", 2, i(11, 1));
        stops("GO to no block", 2, i(6, 2, 1), i(11, 2));
        runs("BRANCH by 0 to no block", "2: 1/0 0/0 0/0 0/0 0/0", i(10, 1, 39));
    }

    private static void readAheadOfSet() {
        mill = new TypedMill();
        runs("ADD to itself", "2: 1/0 1/14 0/0 0/0 0/0", i(0, 2, 7), i(1, 2, 2, 2));
        runs("SUB to its c", "2: 1/3 1/7 0/0 0/0 0/0", i(0, 2, 7), i(0, 1, 10), i(2, 1, 1, 2));
        runs("NEW into b", "2: 3/0 1/7 1/0 1/7 0/0", i(0, 2, 7), i(4, 1, 1, 2), i(5, 3, 1, 0), i(5, 4, 1, 1));
        runs("LOAD into b", "2: 1/0 1/7 0/0 0/0 0/0", i(0, 2, 7), i(4, 1, 1, 2), i(5, 1, 1, 0));
    }
}
