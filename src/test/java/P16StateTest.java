/** Promise 16: state. */
final class P16StateTest {
    public static void main(String[] args) {
        goesOnAndHalts();
        stuck();
        full();
        Expect.end();
    }

    private static void goesOnAndHalts() {
        TypedMill mill = new TypedMill();
        mill.block(-1, -1, -1);
        Build.code(mill, Build.i(0, 2, 1), Build.i(12));
        Expect.due("at first", mill.state(), 0);
        mill.run(1);
        Expect.due("ahead of HALT", mill.state(), 0);
        Expect.due("HALT", mill.run(1), 1);
        Expect.due("behind HALT", mill.state(), 1);
        Expect.due("run() does nothing", mill.run(10), 0);
        Expect.due("still", mill.state(), 1);
        mill.add(12, 0, 0, 0);
        Expect.due("begun by add()", mill.state(), 0);
        mill.run(9);
        mill.block(-1, -1, -1);
        Expect.due("begun by block()", mill.state(), 0);
        mill.run(9);
        mill.clear();
        Expect.due("begun by clear()", mill.state(), 0);
        mill.run(9);
        Expect.due("STUCK without code", mill.state(), 2);
        mill.compile(Build.constant(mill, 1));
        Expect.due("begun by compile()", mill.state(), 0);
        mill.run(9);
        Expect.due("at HALT", mill.state(), 1);
    }

    private static void stuck() {
        TypedMill mill = new TypedMill();
        mill.block(-1, -1, -1);
        Build.code(mill, Build.i(0, 2, 1));
        mill.run(1);
        Expect.due("ahead of nothing", mill.state(), 0);
        mill.run(0);
        Expect.due("run(0) finds nothing", mill.state(), 0);
        Expect.due("run(1)", mill.run(1), 0);
        Expect.due("behind the last one", mill.state(), 2);
        Expect.due("run() does nothing", mill.run(1), 0);
        mill.block(-1, -1, -1);
        Build.code(mill, Build.i(12));
        mill.run(9);
        Expect.due("no block runs on into the next", mill.state(), 2);
    }

    private static void full() {
        TypedMill mill = new TypedMill();
        mill.block(-1, -1, -1);
        Build.code(mill, Build.i(4, 2, 1, 1), Build.i(9, 0));
        Expect.due("run to the most pairs", mill.run(799), 799);
        Expect.due("with all pairs made", mill.state(), 0);
        Expect.due("the last pair", mill.register(2, 1), 399);
        Expect.due("JUMP, and no more", mill.run(10), 1);
        Expect.due("FULL", mill.state(), 3);
        Expect.due("the last pair stays", mill.register(2, 1), 399);
        Expect.due("run() does nothing", mill.run(10), 0);
        mill.clear();
        mill.block(-1, -1, -1);
        Build.code(mill, Build.i(4, 2, 1, 1), Build.i(0, 3, 400), Build.i(9, 1));
        mill.block(-1, -1, -1);
        Build.code(mill, Build.i(0, 4, 1), Build.i(2, 3, 3, 4), Build.i(10, 3, 2), Build.i(4, 1, 1, 5));
        mill.block(-1, -1, -1);
        Build.code(mill, Build.i(4, 2, 1, 1), Build.i(9, 1));
        for (int k = 0; k < 3; k++) {
            mill.run(1000);
        }
        Expect.due("NEW of EMPTY when all pairs are made: none would be made", mill.state(), 2);
        Expect.due("all are made", mill.register(2, 1), 399);
    }
}
