/** Ints that wrap: what programs give, what their code gives, and what instructions give (2, 3, 4; 1, 2, 3). */
final class WrappingTest {
    private static final int MIN = Integer.MIN_VALUE;
    private static final int MAX = Integer.MAX_VALUE;
    private static final int PLUS = 0;
    private static final int MINUS = 1;
    private static final int TIMES = 2;

    public static void main(String[] args) {
        gives(MAX, PLUS, 0, MAX);
        gives(MAX - 1, PLUS, 1, MAX);
        gives(MAX, PLUS, 1, MIN);
        gives(MAX, PLUS, MAX, -2);
        gives(MIN, PLUS, -1, MAX);
        gives(MIN, PLUS, MIN, 0);
        gives(MIN + 1, MINUS, 1, MIN);
        gives(MIN, MINUS, 1, MAX);
        gives(0, MINUS, MIN, MIN);
        gives(MAX, MINUS, -1, MIN);
        gives(MIN, MINUS, MAX, 1);
        gives(46341, TIMES, 46341, -2147479015);
        gives(46340, TIMES, 46340, 2147395600);
        gives(65536, TIMES, 65536, 0);
        gives(65536, TIMES, 32768, MIN);
        gives(MIN, TIMES, -1, MIN);
        gives(MAX, TIMES, MAX, 1);
        gives(MIN, TIMES, MIN, 0);
        Expect.end();
    }

    private static void gives(int left, int which, int right, int want) {
        String what = left + " " + "+-*".charAt(which) + " " + right;
        TypedMill mill = new TypedMill();
        int program = mill.make(2 + which, 0, Build.constant(mill, left), Build.constant(mill, right), 0);
        Expect.due(what, mill.evaluate(program), want);
        mill.compile(program);
        Expect.due("SET of the left one", mill.instruction(0, 2), left);
        Expect.due("SET of the right one", mill.instruction(2, 2), right);
        mill.run(1000);
        Expect.due(what + ", compiled", mill.register(2, 1), want);
        mill.clear();
        mill.block(-1, -1, -1);
        Build.code(mill, Build.i(0, 4, left), Build.i(0, 5, right), Build.i(1 + which, 3, 4, 5));
        mill.run(2);
        Expect.due("the left one", mill.register(4, 1), left);
        Expect.due("the right one", mill.register(5, 1), right);
        mill.run(1);
        Expect.due(what + ", by hand", Build.machine(mill), "0: 1/0 0/0 1/" + want + " 1/" + left + " 1/" + right);
    }
}
