/** The boundary cases of the machine: STUCK, FULL, what is read ahead of what is set (promises 15, 16 and 17). */
final class TermsMachineTest {
    private static final int SET = 0;
    private static final int NEW = 4;
    private static final int LOAD = 5;
    private static final int NAME = 6;
    private static final int WRAP = 7;
    private static final int OPEN = 8;
    private static final int JUMP = 9;
    private static final int BRANCH = 10;
    private static final int GO = 11;
    private static final int HALT = 12;
    private static final int[] THREE_REGISTERS = {1, 2, 3, NEW, OPEN};

    private static final int STUCK = 2;
    private static final int FULL = 3;

    /** Each register is something else: the number 6, block 1, pair 1, pair 0 wrapped, EMPTY. */
    private static final int[] KIND = {-1, 1, 2, 3, 4, 0};
    private static final int[] VALUE = {-1, 6, 1, 1, 0, 0};
    private static final int SETTING_UP = 5;

    public static void main(String[] args) {
        everyOperation();
        wrappedWithoutBlock();
        blocksThatAreThere();
        behindTheLast();
        runLimits();
        pairsUpToTheMost();
        atTheMostOthersGoOn();
        fullOrStuck();
        compiledCodeCanBeFull();
        Expect.end();
    }

    private static int[] i(int... numbers) {
        return numbers;
    }

    /** An object that has done all but the instruction, whose type (for WRAP) is RETURN of NUMBER. */
    private static TypedMill aheadOf(int operation, int a, int b, int c) {
        TypedMill mill = new TypedMill();
        int waits = Build.returnType(mill, 0);
        mill.block(-1, -1, -1);
        Build.code(mill, i(NAME, 2, 1), i(NEW, 4, 2, 1), i(WRAP, 4, 4, waits), i(NEW, 3, 1, 2), i(SET, 1, 6),
                i(operation, a, b, c));
        mill.block(-1, -1, -1);
        Build.code(mill, i(HALT));
        Expect.due("setting up", mill.run(SETTING_UP), SETTING_UP);
        Expect.due("what is set up", Build.machine(mill), machine(0, 0, 0, 0));
        return mill;
    }

    /** The machine as it was set up, but for one register. */
    private static String machine(int state, int register, int kind, int value) {
        StringBuilder text = new StringBuilder().append(state).append(':');
        for (int k = 1; k <= 5; k++) {
            text.append(' ').append(k == register ? kind : KIND[k]);
            text.append('/').append(k == register ? value : VALUE[k]);
        }
        return text.toString();
    }

    private static void sets(int operation, int a, int b, int c, int kind, int value) {
        TypedMill mill = aheadOf(operation, a, b, c);
        String what = operation + " " + a + ", " + b + ", " + c;
        Expect.due("run(1) of " + what, mill.run(1), 1);
        Expect.due("the machine behind " + what, Build.machine(mill), machine(0, a, kind, value));
    }

    private static void isStuck(int operation, int a, int b, int c) {
        TypedMill mill = aheadOf(operation, a, b, c);
        String what = operation + " " + a + ", " + b + ", " + c;
        Expect.due("run(0) ahead of " + what, mill.run(0), 0);
        Expect.due("nothing is found yet", mill.state(), 0);
        Expect.due("run(2) of " + what, mill.run(2), 0);
        Expect.due("the machine at " + what, Build.machine(mill), machine(STUCK, 0, 0, 0));
        Expect.due("run(1000) from then on", mill.run(1000), 0);
    }

    /** Each operation with each register in each of its places, those that it sets and reads at once too. */
    private static void everyOperation() {
        for (int a = 1; a <= 5; a++) {
            sets(SET, a, -8, 0, 1, -8);
            sets(NAME, a, 39, 0, 2, 39);
            for (int b = 1; b <= 5; b++) {
                for (int c = 1; c <= 5; c++) {
                    for (int operation : THREE_REGISTERS) {
                        threeRegisters(operation, a, b, c);
                    }
                }
                if (KIND[b] == 3) {
                    sets(LOAD, a, b, 0, 1, 0);
                    sets(LOAD, a, b, 1, 2, 1);
                    sets(WRAP, a, b, 1, 4, VALUE[b]);
                } else {
                    isStuck(LOAD, a, b, 0);
                    isStuck(LOAD, a, b, 1);
                    isStuck(WRAP, a, b, 1);
                }
            }
            goes(BRANCH, a, KIND[a] == 1);
            goes(GO, a, KIND[a] == 2);
        }
    }

    private static void threeRegisters(int operation, int a, int b, int c) {
        if (operation == OPEN) {
            if (KIND[c] == 4) {
                opens(a, b, c);
            } else {
                isStuck(OPEN, a, b, c);
            }
        } else if (operation == NEW) {
            if (KIND[b] != 0 && KIND[c] != 0) {
                sets(NEW, a, b, c, 3, 2);
                hasParts(a, b, c);
            } else {
                isStuck(NEW, a, b, c);
            }
        } else if (KIND[b] == 1 && KIND[c] == 1) {
            sets(operation, a, b, c, 1, operation == 1 ? 12 : operation == 2 ? 0 : 36);
        } else {
            isStuck(operation, a, b, c);
        }
    }

    /** The new pair's parts are what b and c were ahead of it. */
    private static void hasParts(int a, int b, int c) {
        TypedMill mill = new TypedMill();
        int waits = Build.returnType(mill, 0);
        mill.block(-1, -1, -1);
        Build.code(mill, i(NAME, 2, 1), i(NEW, 4, 2, 1), i(WRAP, 4, 4, waits), i(NEW, 3, 1, 2), i(SET, 1, 6),
                i(NEW, a, b, c), i(LOAD, 5, a, 0), i(LOAD, a, a, 1));
        mill.run(7);
        if (a != 5) {
            Expect.due("the first part's kind", mill.register(5, 0), KIND[b]);
            Expect.due("the first part", mill.register(5, 1), VALUE[b]);
            mill.run(1);
            Expect.due("the second part's kind", mill.register(a, 0), KIND[c]);
            Expect.due("the second part", mill.register(a, 1), VALUE[c]);
        }
    }

    /** The block comes into a, and then the second part into b: that one stands if they are the same. */
    private static void opens(int a, int b, int c) {
        TypedMill mill = aheadOf(OPEN, a, b, c);
        Expect.due("OPEN", mill.run(1), 1);
        for (int k = 1; k <= 5; k++) {
            int kind = k == b ? 1 : k == a ? 2 : KIND[k];
            int value = k == b ? 0 : k == a ? 1 : VALUE[k];
            String what = "register " + k + " behind OPEN " + a + ", " + b + ", " + c;
            Expect.due("kind of " + what, mill.register(k, 0), kind);
            Expect.due("value of " + what, mill.register(k, 1), value);
        }
    }

    private static void goes(int operation, int a, boolean can) {
        if (can) {
            TypedMill mill = aheadOf(operation, a, 1, 0);
            Expect.due("going by " + a, mill.run(1), 1);
            Expect.due("it goes on", Build.machine(mill), machine(0, 0, 0, 0));
            Expect.due("HALT there", mill.run(5), 1);
            Expect.due("at HALT", Build.machine(mill), machine(1, 0, 0, 0));
        } else {
            isStuck(operation, a, 1, 0);
        }
    }

    /** A wrapped pair can have anything as its first part, but only one with a block can be opened. */
    private static void wrappedWithoutBlock() {
        for (int first = 1; first <= 4; first++) {
            for (int into = 1; into <= 5; into++) {
                TypedMill mill = new TypedMill();
                int waits = Build.returnType(mill, 0);
                mill.block(-1, -1, -1);
                Build.code(mill, i(NAME, 2, 1), i(NEW, 4, 2, 1), i(WRAP, 4, 4, waits), i(NEW, 3, 1, 2), i(SET, 1, 6),
                        i(NEW, 5, first, 2), i(WRAP, 5, 5, waits), i(OPEN, into, 6 - into, 5));
                mill.run(7);
                String before = Build.machine(mill).substring(1);
                boolean block = KIND[first] == 2;
                String what = "OPEN of one with a first part of kind " + KIND[first];
                Expect.due(what, mill.run(1), block ? 1 : 0);
                Expect.due("state behind " + what, mill.state(), block ? 0 : STUCK);
                Expect.yes("nothing of it is done", block || before.equals(Build.machine(mill).substring(1)));
            }
        }
    }

    /** Of two blocks 0 and 1 are there, 2 and 39 are not. */
    private static void blocksThatAreThere() {
        for (int to : new int[] {0, 1, 2, 39}) {
            boolean there = to < 2;
            going("JUMP to " + to, there, i(JUMP, to), i(SET, 5, 5));
            going("BRANCH to " + to, there, i(BRANCH, 2, to), i(SET, 5, 5));
            going("BRANCH by 0 to " + to, true, i(BRANCH, 1, to), i(SET, 5, 5));
            TypedMill mill = new TypedMill();
            mill.block(-1, -1, -1);
            Build.code(mill, i(NAME, 2, to), i(GO, 2));
            mill.block(-1, -1, -1);
            Expect.due("NAME of " + to, mill.run(1), 1);
            Expect.due("it is in the register", mill.register(2, 1), to);
            Expect.due("GO to " + to, mill.run(1), there ? 1 : 0);
            Expect.due("state behind GO to " + to, mill.state(), there ? 0 : STUCK);
        }
        TypedMill mill = new TypedMill();
        mill.block(-1, -1, -1);
        Build.code(mill, i(JUMP, 1));
        Expect.due("JUMP to no block", mill.run(9), 0);
        Expect.due("it is STUCK", mill.state(), STUCK);
        mill.block(-1, -1, -1);
        Build.code(mill, i(HALT));
        Expect.due("JUMP when the block has come", mill.run(9), 2);
    }

    private static void going(String what, boolean there, int[]... instructions) {
        TypedMill mill = new TypedMill();
        mill.block(-1, -1, -1);
        Build.code(mill, i(SET, 2, 1));
        Build.code(mill, instructions);
        mill.block(-1, -1, -1);
        mill.run(1);
        Expect.due(what, mill.run(1), there ? 1 : 0);
        Expect.due("state behind " + what, mill.state(), there ? 0 : STUCK);
        Expect.due("registers behind " + what, Build.machine(mill).substring(1), ": 1/0 1/1 0/0 0/0 0/0");
    }

    /** There is no instruction: no block 0, an empty one, behind the last of one, ahead of another one. */
    private static void behindTheLast() {
        TypedMill mill = new TypedMill();
        stuckAfter("without block 0", mill, 0);
        mill.block(-1, -1, -1);
        stuckAfter("in an empty block", mill, 0);
        Build.code(mill, i(SET, 2, 1));
        stuckAfter("behind the only one", mill, 1);
        mill.block(-1, -1, -1);
        Build.code(mill, i(SET, 2, 2), i(HALT));
        stuckAfter("ahead of the next block", mill, 1);
        Expect.due("the next block is not gone to", mill.register(2, 1), 1);
        mill.clear();
        stuckAfter("without code again", mill, 0);
        mill.block(-1, -1, -1);
        Build.code(mill, i(JUMP, 1));
        mill.block(-1, -1, -1);
        stuckAfter("in an empty block behind a JUMP", mill, 1);
    }

    private static void stuckAfter(String what, TypedMill mill, int done) {
        Expect.due("state at first, " + what, mill.state(), 0);
        Expect.due("so many are done, " + what, mill.run(done), done);
        Expect.due("run(0), " + what, mill.run(0), 0);
        Expect.due("not found yet, " + what, mill.state(), 0);
        Expect.due("run(1), " + what, mill.run(1), 0);
        Expect.due("found, " + what, mill.state(), STUCK);
    }

    /** n is 0 to 1000: at 999, 1000 and 1001, in each state. */
    private static void runLimits() {
        int[] n = {-1, 0, 1, 999, 1000, 1001};
        int[] want = {-1, 0, 1, 999, 1000, -1};
        TypedMill mill = new TypedMill();
        mill.block(-1, -1, -1);
        Build.code(mill, i(1, 2, 1, 1), i(JUMP, 0));
        for (int k = 0; k < n.length; k++) {
            Expect.due("run(" + n[k] + ")", mill.run(n[k]), want[k]);
            Expect.due("it goes on", mill.state(), 0);
        }
        TypedMill ended = new TypedMill();
        ended.block(-1, -1, -1);
        Build.code(ended, i(HALT));
        ended.run(1);
        for (int k = 0; k < n.length; k++) {
            Expect.due("run(" + n[k] + ") behind HALT", ended.run(n[k]), want[k] < 0 ? -1 : 0);
            Expect.due("still at HALT", ended.state(), 1);
        }
    }

    /** Makes so many pairs, (number, number) each, and goes on to block 2. */
    private static TypedMill withPairs(int pairs) {
        TypedMill mill = new TypedMill();
        mill.block(-1, -1, -1);
        Build.code(mill, i(SET, 3, pairs), i(SET, 4, 1), i(JUMP, 1));
        mill.block(-1, -1, -1);
        Build.code(mill, i(NEW, 2, 1, 3), i(2, 3, 3, 4), i(BRANCH, 3, 1), i(JUMP, 2));
        mill.block(-1, -1, -1);
        return mill;
    }

    private static void runPairs(TypedMill mill, int pairs) {
        int left = 3 + 3 * pairs + 1;
        Expect.due("the first thousand", mill.run(1000), 1000);
        Expect.due("the rest", mill.run(left - 1000), left - 1000);
        Expect.due("all pairs are there", Build.machine(mill), "0: 1/0 3/" + (pairs - 1) + " 1/0 1/1 0/0");
    }

    private static void pairsUpToTheMost() {
        TypedMill fewer = withPairs(399);
        Build.code(fewer, i(NEW, 5, 2, 1), i(NEW, 1, 5, 5));
        runPairs(fewer, 399);
        Expect.due("the 400th pair", fewer.run(1), 1);
        Expect.due("it is there", Build.machine(fewer), "0: 1/0 3/398 1/0 1/1 3/399");
        Expect.due("the 401st", fewer.run(1), 0);
        Expect.due("nothing of it is done", Build.machine(fewer), "3: 1/0 3/398 1/0 1/1 3/399");
        Expect.due("run() from then on", fewer.run(1000), 0);
        TypedMill most = withPairs(400);
        Build.code(most, i(NEW, 1, 2, 1));
        runPairs(most, 400);
        Expect.due("run(0) finds nothing", most.run(0), 0);
        Expect.due("it goes on", most.state(), 0);
        Expect.due("the 401st", most.run(1), 0);
        Expect.due("nothing of it is done", Build.machine(most), "3: 1/0 3/399 1/0 1/1 0/0");
        Expect.due("added to, it begins", most.add(HALT, 0, 0, 0), 9);
        Expect.due("from the first pair on", most.run(4), 4);
        Expect.due("which is pair 0", Build.machine(most), "0: 1/0 3/0 1/400 1/1 0/0");
    }

    private static void atTheMostOthersGoOn() {
        TypedMill mill = withPairs(400);
        int waits = Build.returnType(mill, 0);
        Build.code(mill, i(LOAD, 5, 2, 1), i(1, 5, 5, 5), i(NAME, 1, 1), i(WRAP, 3, 2, waits), i(SET, 4, 7),
                i(JUMP, 3));
        mill.block(-1, -1, -1);
        Build.code(mill, i(BRANCH, 4, 4));
        mill.block(-1, -1, -1);
        Build.code(mill, i(HALT));
        runPairs(mill, 400);
        Expect.due("all but NEW", mill.run(1000), 8);
        Expect.due("to HALT", Build.machine(mill), "1: 2/1 3/399 4/399 1/7 1/2");
    }

    /** With an EMPTY register no pair would be made, so it is not FULL. */
    private static void fullOrStuck() {
        int[][] registers = {{1, 2}, {5, 1}, {1, 5}, {5, 5}};
        int[] want = {FULL, STUCK, STUCK, STUCK};
        for (int k = 0; k < want.length; k++) {
            TypedMill mill = withPairs(400);
            Build.code(mill, i(NEW, 2, registers[k][0], registers[k][1]));
            runPairs(mill, 400);
            Expect.due("NEW of " + registers[k][0] + " and " + registers[k][1], mill.run(1), 0);
            Expect.due("state", Build.machine(mill), want[k] + ": 1/0 3/399 1/0 1/1 0/0");
        }
    }

    private static void compiledCodeCanBeFull() {
        TypedMill mill = new TypedMill();
        int program = Build.countDown(mill, 100, Build.constant(mill, 3));
        mill.compile(program);
        Expect.due("the code is right", mill.check(), -1);
        int done = mill.run(1000) + mill.run(1000) + mill.run(1000);
        Expect.due("FULL", mill.state(), FULL);
        Expect.yes("ahead of its end", done < 3000);
        Expect.due("run() from then on", mill.run(1000), 0);
        mill.compile(program);
        Expect.due("compile() begins it", mill.state(), 0);
    }
}
