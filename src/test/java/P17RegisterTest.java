/** Promise 17: register. */
final class P17RegisterTest {
    public static void main(String[] args) {
        TypedMill mill = new TypedMill();
        int waits = Build.returnType(mill, 0);
        Expect.due("at first", Build.machine(mill), "0: 1/0 0/0 0/0 0/0 0/0");
        mill.block(-1, -1, -1);
        Build.code(mill, Build.i(4, 2, 1, 1), Build.i(0, 1, -12), Build.i(6, 2, 33), Build.i(4, 3, 2, 1),
                Build.i(4, 4, 3, 3), Build.i(7, 4, 4, waits), Build.i(12));
        mill.run(1000);
        Expect.due("a number, a block, a pair, a wrapped pair and EMPTY", Build.machine(mill),
                "1: 1/-12 2/33 3/1 4/2 0/0");
        int[] noRegister = {0, 6, -1, Integer.MIN_VALUE, Integer.MAX_VALUE};
        for (int k : noRegister) {
            Expect.due("register(" + k + ", 0)", mill.register(k, 0), -1);
            Expect.due("register(" + k + ", 1)", mill.register(k, 1), -1);
        }
        int[] noWhat = {-1, 2, Integer.MIN_VALUE, Integer.MAX_VALUE};
        for (int what : noWhat) {
            for (int k = 1; k <= 5; k++) {
                Expect.due("register(" + k + ", " + what + ")", mill.register(k, what), -1);
            }
        }
        mill.add(12, 0, 0, 0);
        Expect.due("begun", Build.machine(mill), "0: 1/0 0/0 0/0 0/0 0/0");
        mill.run(1);
        Expect.due("pairs are counted from 0 again", mill.register(2, 1), 0);
        Expect.end();
    }
}
