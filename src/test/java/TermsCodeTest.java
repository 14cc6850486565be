/** The boundary cases of code by hand: how many blocks and instructions, and their numbers (9 to 11, 13, 14). */
final class TermsCodeTest {
    private static final int SET = 0;
    private static final int HALT = 12;

    public static void main(String[] args) {
        blocksUpToForty();
        beyondForty();
        instructionsUpToThreeHundred();
        beyondThreeHundred();
        bothAtTheLimit();
        numbersOfInstructions();
        typesOfWraps();
        whatIsNotLookedAt();
        wheneverItBegins();
        compiledAndClearedAgain();
        tellingAtTheEdges();
        Expect.end();
    }

    private static int[] i(int... numbers) {
        return numbers;
    }

    /** So many blocks; each but the first asks something, and has one instruction, but for each third. */
    private static void blocks(TypedMill mill, int many) {
        int pair = Build.pairType(mill, 0, 0);
        for (int k = 0; k < many; k++) {
            Expect.due("block " + k, mill.block(k == 0 ? -1 : 0, k % 2 - 1, k % 5 == 0 ? -1 : pair), k);
            if (k % 3 != 0) {
                mill.add(SET, 1, k, 0);
            }
        }
    }

    private static void blocksUpToForty() {
        TypedMill mill = new TypedMill();
        blocks(mill, 39);
        Expect.due("block 38", mill.look(38, 1), 1);
        Expect.due("no block 39 yet", mill.look(39, 1), -1);
        Expect.due("one that is refused", mill.block(2, -1, -1), -1);
        Expect.due("the fortieth", mill.block(-1, 0, -1), 39);
        Expect.due("its first instruction", mill.look(39, 0), 26);
        Expect.due("how many it has", mill.look(39, 1), 0);
        Expect.due("what it asks of 1", mill.look(39, 2), 0);
        Expect.due("what it asks of 2", mill.look(39, 3), 1);
        Expect.due("what it asks of 3", mill.look(39, 4), 0);
        Expect.due("an instruction for it", mill.add(HALT, 0, 0, 0), 27);
        Expect.due("it has it", mill.look(39, 1), 1);
        Expect.due("block 38 has no more", mill.look(38, 1), 1);
    }

    private static void beyondForty() {
        Tells tells = new Tells(mill -> {
            blocks(mill, 40);
            mill.run(1);
        });
        tells.stay("block() at forty", mill -> Expect.due("one beyond", mill.block(-1, -1, -1), -1));
        tells.stay("block() that asks at forty", mill -> Expect.due("one beyond", mill.block(0, 0, 0), -1));
        TypedMill mill = new TypedMill();
        blocks(mill, 40);
        mill.clear();
        Expect.due("cleared, from 0 again", mill.block(-1, -1, -1), 0);
        Expect.due("no block 1", mill.look(1, 0), -1);
    }

    /** So many SETs in two blocks. */
    private static void instructions(TypedMill mill, int many) {
        mill.block(-1, -1, -1);
        for (int k = 0; k < many; k++) {
            if (k == 120) {
                mill.block(0, -1, 0);
            }
            Expect.due("instruction " + k, mill.add(SET, 1 + k % 5, k - 7, 0), k + 1);
        }
    }

    private static void instructionsUpToThreeHundred() {
        TypedMill mill = new TypedMill();
        instructions(mill, 299);
        Expect.due("no instruction 299 yet", mill.instruction(299, 0), -1);
        Expect.due("one that is refused", mill.add(SET, 6, 1, 0), -1);
        Expect.due("the 300th", mill.add(3, 1, 2, 3), 300);
        Expect.due("it is there", Build.instruction(mill, 299), "MUL 1 2 3");
        Expect.due("its block has it", mill.look(1, 1), 180);
        Expect.due("no instruction 300", mill.instruction(300, 0), -1);
    }

    private static void beyondThreeHundred() {
        Tells tells = new Tells(mill -> {
            instructions(mill, 300);
            mill.run(77);
        });
        tells.stay("add() at 300", mill -> Expect.due("one beyond", mill.add(SET, 1, 1, 0), -1));
        tells.stay("HALT at 300", mill -> Expect.due("one beyond", mill.add(HALT, 0, 0, 0), -1));
        TypedMill mill = new TypedMill();
        instructions(mill, 300);
        Expect.due("a block can still come", mill.block(-1, -1, -1), 2);
        Expect.due("where it begins", mill.look(2, 0), 300);
        Expect.due("an instruction for it can not", mill.add(HALT, 0, 0, 0), -1);
        Expect.due("it has none", mill.look(2, 1), 0);
        mill.clear();
        mill.block(-1, -1, -1);
        Expect.due("cleared, from 1 again", mill.add(HALT, 0, 0, 0), 1);
    }

    /** Forty blocks and 300 instructions at once: the last of each. */
    private static void bothAtTheLimit() {
        TypedMill mill = new TypedMill();
        for (int k = 0; k < 40; k++) {
            mill.block(-1, -1, -1);
            for (int n = 0; n < 7; n++) {
                mill.add(SET, 1, 7 * k + n, 0);
            }
        }
        for (int k = 280; k < 300; k++) {
            mill.add(SET, 1, k, 0);
        }
        Expect.due("the last block", mill.look(39, 0) + mill.look(39, 1), 300);
        Expect.due("the last instruction", mill.instruction(299, 2), 299);
        Expect.due("one block more", mill.block(-1, -1, -1), -1);
        Expect.due("one instruction more", mill.add(SET, 1, 0, 0), -1);
        Expect.due("the last block still", mill.look(39, 0) + mill.look(39, 1), 300);
    }

    /** Each number at both of its ends and one beyond them. */
    private static void numbersOfInstructions() {
        for (int operation = 0; operation <= 12; operation++) {
            Expect.yes("operation " + operation, takes(operation, 1, 1, 1));
        }
        Expect.yes("no operation -1", !takes(-1, 1, 1, 1));
        Expect.yes("no operation 13", !takes(13, 1, 1, 1));
        for (int number = -1; number <= 7; number++) {
            boolean register = number >= 1 && number <= 5;
            for (int operation : i(0, 1, 2, 3, 4, 5, 6, 7, 8, 10, 11)) {
                Expect.yes("a " + number + " of " + operation, takes(operation, number, 1, 1) == register);
            }
            for (int operation : i(1, 2, 3, 4, 5, 7, 8)) {
                Expect.yes("b " + number + " of " + operation, takes(operation, 1, number, 1) == register);
            }
            for (int operation : i(1, 2, 3, 4, 8)) {
                Expect.yes("c " + number + " of " + operation, takes(operation, 1, 1, number) == register);
            }
            Expect.yes("c " + number + " of LOAD", takes(5, 1, 1, number) == (number == 0 || number == 1));
        }
        for (int number : i(-1, 0, 1, 38, 39, 40, 41)) {
            boolean block = number >= 0 && number <= 39;
            Expect.yes("NAME of " + number, takes(6, 1, number, 0) == block);
            Expect.yes("JUMP to " + number, takes(9, number, 0, 0) == block);
            Expect.yes("BRANCH to " + number, takes(10, 1, number, 0) == block);
        }
    }

    /** Whether the instruction is taken by an object whose type 1 is RETURN of NUMBER. */
    private static boolean takes(int operation, int a, int b, int c) {
        TypedMill mill = new TypedMill();
        Build.returnType(mill, 0);
        mill.block(-1, -1, -1);
        int answer = mill.add(operation, a, b, c);
        Expect.due("how many there are", mill.look(0, 1), answer == -1 ? 0 : 1);
        return answer == 1;
    }

    /** A type that is FUNCTION or RETURN, the first and the last there is, and of each other kind. */
    private static void typesOfWraps() {
        TypedMill mill = new TypedMill();
        int function = Build.functionType(mill, 0, 0);
        int pair = Build.pairType(mill, function, function);
        int code = Build.codeType(mill, function, 0, 0);
        int last = Build.returnType(mill, pair);
        mill.block(-1, -1, -1);
        Expect.due("WRAP with FUNCTION", mill.add(7, 1, 2, function), 1);
        Expect.due("WRAP with RETURN", mill.add(7, 1, 2, last), 2);
        for (int type : i(-2, -1, 0, pair, code, last + 1, 29, 30)) {
            Expect.due("WRAP with type " + type, mill.add(7, 1, 2, type), -1);
        }
        Expect.due("its SIZE is told", mill.instruction(0, 3), 3);
        Expect.due("the other's", mill.instruction(1, 3), 8);
        Expect.due("then the type comes", Build.returnType(mill, function), last + 1);
        Expect.due("WRAP with it", mill.add(7, 1, 2, last + 1), 3);
    }

    /** What an operation has not can be anything, and is told as 0. */
    private static void whatIsNotLookedAt() {
        int[][] all = {{0, 1, 8, 99}, {6, 1, 8, -1}, {9, 8, -1, 99}, {10, 1, 8, 99}, {11, 1, -1, 99}, {12, -1, 99, 7}};
        String[] want = {"SET 1 8 0", "NAME 1 8 0", "JUMP 8 0 0", "BRANCH 1 8 0", "GO 1 0 0", "HALT 0 0 0"};
        TypedMill mill = new TypedMill();
        mill.block(-1, -1, -1);
        for (int k = 0; k < all.length; k++) {
            Expect.due(want[k], mill.add(all[k][0], all[k][1], all[k][2], all[k][3]), k + 1);
            Expect.due("it is told", Build.instruction(mill, k), want[k]);
        }
    }

    /** Each of the calls after which the machine begins, from each state that it can be in. */
    private static void wheneverItBegins() {
        int[][] endings = {i(9, 0), i(HALT), i(1, 1, 5, 5), i(4, 1, 1, 1)};
        for (int[] end : endings) {
            for (int call = 0; call < 4; call++) {
                TypedMill mill = new TypedMill();
                int one = Build.constant(mill, 1);
                mill.block(-1, -1, -1);
                Build.code(mill, i(SET, 3, 5), i(4, 4, 3, 3), end, i(9, 0));
                mill.run(1000);
                boolean changed = !Build.machine(mill).equals("0: 1/0 0/0 0/0 0/0 0/0");
                Expect.yes("it has run", changed);
                switch (call) {
                    case 0 -> mill.block(-1, -1, -1);
                    case 1 -> mill.add(HALT, 0, 0, 0);
                    case 2 -> mill.clear();
                    default -> mill.compile(one);
                }
                Expect.due("the machine begins", Build.machine(mill), "0: 1/0 0/0 0/0 0/0 0/0");
                int due = call == 2 ? 0 : 2;
                Expect.due("and goes from block 0", mill.run(2), due);
                String want = call == 2 ? "2: 1/0 0/0 0/0 0/0 0/0" : call == 3 ? "1: 1/0 1/1 0/0 0/0 0/0"
                        : "0: 1/0 0/0 1/5 3/0 0/0";
                Expect.due("pairs from 0", Build.machine(mill), want);
            }
        }
    }

    private static void compiledAndClearedAgain() {
        TypedMill mill = new TypedMill();
        int one = Build.constant(mill, 1);
        int pair = Build.pair(mill, one, one);
        mill.block(-1, -1, -1);
        Expect.due("a compile() that throws", Expect.answer(() -> mill.compile(pair)),
                "throws.IllegalArgumentException");
        Expect.due("code by hand stays so", mill.block(-1, -1, -1), 1);
        Expect.due("and takes instructions", mill.add(HALT, 0, 0, 0), 1);
        mill.compile(one);
        Expect.due("a block for compiled code", mill.block(-1, -1, -1), -1);
        Expect.due("an instruction for compiled code", mill.add(HALT, 0, 0, 0), -1);
        Expect.due("a compile() that throws", Expect.answer(() -> mill.compile(9)), "throws.NoSuchElementException");
        Expect.due("a block still", mill.block(-1, -1, -1), -1);
        Expect.due("an instruction still", mill.add(HALT, 0, 0, 0), -1);
        mill.compile(one);
        Expect.due("compiled anew, a block", mill.block(-1, -1, -1), -1);
        mill.clear();
        Expect.due("cleared, an instruction without a block", mill.add(HALT, 0, 0, 0), -1);
        Expect.due("cleared, a block", mill.block(-1, -1, -1), 0);
        Expect.due("cleared, an instruction", mill.add(HALT, 0, 0, 0), 1);
    }

    /** The first and the last that are told, and one beyond them. */
    private static void tellingAtTheEdges() {
        TypedMill mill = new TypedMill();
        mill.block(0, -1, -1);
        Build.code(mill, i(1, 2, 3, 4), i(8, 5, 4, 3));
        mill.block(-1, -1, 0);
        String[] instructions = {"-1,-1,-1,-1,-1,-1", "-1,1,2,3,4,-1", "-1,8,5,4,3,-1", "-1,-1,-1,-1,-1,-1"};
        String[] blocks = {"-1,-1,-1,-1,-1,-1,-1", "-1,0,2,1,0,0,-1", "-1,2,0,0,0,1,-1", "-1,-1,-1,-1,-1,-1,-1"};
        for (int k = -1; k <= 2; k++) {
            StringBuilder told = new StringBuilder();
            for (int what = -1; what <= 4; what++) {
                told.append(what == -1 ? "" : ",").append(mill.instruction(k, what));
            }
            Expect.due("instruction " + k, told.toString(), instructions[k + 1]);
            told.setLength(0);
            for (int what = -1; what <= 5; what++) {
                told.append(what == -1 ? "" : ",").append(mill.look(k, what));
            }
            Expect.due("block " + k, told.toString(), blocks[k + 1]);
        }
        for (int k = -1; k <= 6; k++) {
            for (int what = -1; what <= 2; what++) {
                boolean there = k >= 1 && k <= 5 && (what == 0 || what == 1);
                int want = !there ? -1 : k == 1 && what == 0 ? 1 : 0;
                Expect.due("register(" + k + ", " + what + ")", mill.register(k, what), want);
            }
        }
    }
}
