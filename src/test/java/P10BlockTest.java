/** Promise 10: block. */
final class P10BlockTest {
    public static void main(String[] args) {
        ordinary();
        wrongInputs();
        fortyBlocks();
        compiledCode();
        Expect.end();
    }

    private static void ordinary() {
        TypedMill mill = new TypedMill();
        int pair = Build.pairType(mill, 0, 0);
        Expect.due("the first", mill.block(0, -1, -1), 0);
        Build.code(mill, Build.i(0, 4, 9), Build.i(12));
        mill.run(2);
        Expect.due("ended", mill.state(), 1);
        Expect.due("the second", mill.block(-1, pair, 0), 1);
        Expect.due("the machine begins", Build.machine(mill), "0: 1/0 0/0 0/0 0/0 0/0");
        Expect.due("the third", mill.block(-1, -1, -1), 2);
        Expect.due("what they ask", Build.listing(mill),
                "0(1 0 0)@0: SET 4 9 0; HALT 0 0 0; | 1(0 3 1)@2: | 2(0 0 0)@2:");
        Expect.due("an instruction goes to the last", mill.add(12, 0, 0, 0), 3);
        Expect.due("the last has it", mill.look(2, 1), 1);
    }

    private static void wrongInputs() {
        TypedMill mill = new TypedMill();
        mill.block(-1, -1, -1);
        Build.code(mill, Build.i(0, 4, 9), Build.i(12));
        mill.run(1);
        int[] absent = {-2, 1, 30, Integer.MIN_VALUE, Integer.MAX_VALUE};
        for (int type : absent) {
            Expect.due("block(" + type + ", 0, 0)", mill.block(type, 0, 0), -1);
            Expect.due("block(0, " + type + ", 0)", mill.block(0, type, 0), -1);
            Expect.due("block(0, 0, " + type + ")", mill.block(0, 0, type), -1);
        }
        Expect.due("no block has come", mill.look(1, 0), -1);
        Expect.due("the machine stays", Build.machine(mill), "0: 1/0 0/0 0/0 1/9 0/0");
    }

    private static void fortyBlocks() {
        TypedMill mill = new TypedMill();
        for (int k = 0; k < 40; k++) {
            Expect.due("block " + k, mill.block(-1, -1, -1), k);
        }
        Expect.due("one more", mill.block(-1, -1, -1), -1);
        Expect.due("the last is there", mill.look(39, 1), 0);
        Expect.due("none behind it", mill.look(40, 1), -1);
        mill.clear();
        Expect.due("from 0 again", mill.block(-1, -1, -1), 0);
    }

    private static void compiledCode() {
        TypedMill mill = new TypedMill();
        mill.compile(Build.constant(mill, 1));
        mill.run(1);
        Expect.due("a block for compiled code", mill.block(-1, -1, -1), -1);
        Expect.due("the machine stays", Build.machine(mill), "0: 1/0 1/1 0/0 0/0 0/0");
        mill.clear();
        Expect.due("a block for cleared code", mill.block(-1, -1, -1), 0);
    }
}
