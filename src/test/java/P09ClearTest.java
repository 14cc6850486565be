/** Promise 9: clear. */
final class P09ClearTest {
    public static void main(String[] args) {
        TypedMill mill = new TypedMill();
        int pair = Build.pairType(mill, 0, 0);
        int one = Build.constant(mill, 1);
        mill.block(-1, -1, -1);
        Build.code(mill, Build.i(0, 2, 5), Build.i(4, 3, 2, 2), Build.i(12));
        mill.run(10);
        mill.clear();
        begun(mill, "after code by hand");
        mill.compile(Build.choice(mill, one, one, one));
        mill.run(3);
        mill.clear();
        begun(mill, "after compiled code");
        Expect.due("types stay", mill.size(pair), 3);
        Expect.due("expressions stay", mill.evaluate(one), 1);
        Expect.due("a block again", mill.block(-1, -1, -1), 0);
        Expect.due("it has no instruction", mill.look(0, 1), 0);
        Expect.due("an instruction again", mill.add(12, 0, 0, 0), 1);
        mill.clear();
        mill.clear();
        begun(mill, "after clear()");
        Expect.end();
    }

    private static void begun(TypedMill mill, String when) {
        Expect.due("blocks " + when, mill.look(0, 0), -1);
        Expect.due("instructions " + when, mill.instruction(0, 0), -1);
        Expect.due("the machine " + when, Build.machine(mill), "0: 1/0 0/0 0/0 0/0 0/0");
        Expect.due("check() " + when, mill.check(), 0);
        Expect.due("add() " + when, mill.add(12, 0, 0, 0), -1);
        Expect.due("run(1) " + when, mill.run(1), 0);
        Expect.due("it is STUCK " + when, mill.state(), 2);
    }
}
