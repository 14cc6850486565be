/** Promise 13: instruction. */
final class P13InstructionTest {
    public static void main(String[] args) {
        TypedMill mill = new TypedMill();
        int pair = Build.pairType(mill, 0, 0);
        int function = Build.functionType(mill, pair, 0);
        mill.block(-1, -1, -1);
        Build.code(mill, Build.i(0, 3, -7, 9), Build.i(1, 1, 2, 3));
        mill.block(-1, -1, -1);
        Build.code(mill, Build.i(7, 4, 5, function), Build.i(10, 2, 39, 9), Build.i(12, 9, 9, 9));
        String[] want = {"SET 3 -7 0", "ADD 1 2 3", "WRAP 4 5 5", "BRANCH 2 39 0", "HALT 0 0 0"};
        for (int k = 0; k < want.length; k++) {
            Expect.due("instruction " + k, Build.instruction(mill, k), want[k]);
        }
        int[] absent = {-1, 5, 300, Integer.MIN_VALUE, Integer.MAX_VALUE};
        for (int k : absent) {
            for (int what = 0; what < 4; what++) {
                Expect.due("instruction(" + k + ", " + what + ")", mill.instruction(k, what), -1);
            }
        }
        int[] noWhat = {-1, 4, Integer.MIN_VALUE, Integer.MAX_VALUE};
        for (int what : noWhat) {
            Expect.due("instruction(0, " + what + ")", mill.instruction(0, what), -1);
        }
        compiled();
        Expect.end();
    }

    /** In the order in which they were written, which is not that of the blocks' numbers. */
    private static void compiled() {
        TypedMill mill = new TypedMill();
        int function = Build.functionType(mill, 0, 0);
        int lambda = Build.lambda(mill, function, Build.variable(mill, 0));
        mill.compile(Build.call(mill, lambda, Build.constant(mill, 6)));
        Expect.due("the first", Build.instruction(mill, 0), "NAME 4 1 0");
        Expect.due("WRAP with FUNCTION", Build.instruction(mill, 2), "WRAP 2 4 3");
        Expect.due("NAME of the block behind", Build.instruction(mill, 5), "NAME 4 2 0");
        Expect.due("WRAP with RETURN, which is no type of the user's", Build.instruction(mill, 8), "WRAP 3 4 2");
        Expect.due("HALT, of block 2", Build.instruction(mill, 12), "HALT 0 0 0");
        Expect.due("behind it block 1", Build.instruction(mill, 13), "NAME 4 1 0");
        Expect.due("the last", Build.instruction(mill, 23), "GO 5 0 0");
        Expect.due("behind it", mill.instruction(24, 0), -1);
        Build.pairType(mill, 0, function);
        Expect.due("other types come, sizes stay", Build.instruction(mill, 8), "WRAP 3 4 2");
    }
}
