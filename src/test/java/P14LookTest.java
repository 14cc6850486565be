/** Promise 14: look. */
final class P14LookTest {
    public static void main(String[] args) {
        byHand();
        compiled();
        Expect.end();
    }

    private static void look(TypedMill mill, int block, int... want) {
        for (int what = 0; what < want.length; what++) {
            Expect.due("look(" + block + ", " + what + ")", mill.look(block, what), want[what]);
        }
    }

    private static void byHand() {
        TypedMill mill = new TypedMill();
        int pair = Build.pairType(mill, 0, 0);
        int code = Build.codeType(mill, pair, pair, -1);
        mill.block(-1, -1, -1);
        look(mill, 0, 0, 0, 0, 0, 0);
        Build.code(mill, Build.i(0, 1, 1), Build.i(0, 1, 1), Build.i(12));
        mill.block(code, -1, 0);
        Build.code(mill, Build.i(12));
        mill.block(-1, pair, -1);
        look(mill, 0, 0, 3, 0, 0, 0);
        look(mill, 1, 3, 1, 7, 0, 1);
        look(mill, 2, 4, 0, 0, 3, 0);
        int[] absent = {-1, 3, 40, Integer.MIN_VALUE, Integer.MAX_VALUE};
        for (int block : absent) {
            look(mill, block, -1, -1, -1, -1, -1, -1);
        }
        int[] noWhat = {-1, 5, Integer.MIN_VALUE, Integer.MAX_VALUE};
        for (int what : noWhat) {
            Expect.due("look(0, " + what + ")", mill.look(0, what), -1);
        }
    }

    /** Environments of compiled code are larger than any type that can be kept. */
    private static void compiled() {
        TypedMill mill = new TypedMill();
        int one = Build.constant(mill, 1);
        int large = one;
        for (int k = 0; k < 4; k++) {
            large = Build.pair(mill, large, large);
        }
        int chosen = Build.choice(mill, one, large, large);
        int pushed = Build.second(mill, Build.pair(mill, chosen, Build.choice(mill, one, one, one)));
        Expect.due("compile", mill.compile(pushed), 2 * 76 + 16);
        look(mill, 0, 0, 79, 1, 0, 0);
        look(mill, 1, 79, 77, 1, 0, 0);
        look(mill, 2, 156, 5, 1, 31, 0);
        look(mill, 3, 161, 2, 33, 0, 0);
        look(mill, 4, 163, 5, 33, 1, 0);
        look(mill, 5, -1, -1, -1, -1, -1);
    }
}
