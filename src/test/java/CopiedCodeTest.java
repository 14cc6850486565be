import java.util.ArrayList;
import java.util.List;

/**
 * Compiled code is written once more by hand: it is as right, and does the same. Then each of its
 * instructions, and all that its blocks ask, is changed in each small way: the model agrees on check() and
 * on the machine, and what check() calls right does not get stuck in 1000 instructions.
 */
final class CopiedCodeTest {
    private static final int SET = 0;
    private static final int LOAD = 5;
    private static final int NAME = 6;
    private static final int WRAP = 7;
    private static final int JUMP = 9;
    private static final int BRANCH = 10;
    private static final int GO = 11;
    private static final int HALT = 12;
    private static final int NONE = -1;

    private static int right;
    private static int wrong;
    private static int stuck;

    /** A block's types and its instructions, all as the numbers that block() and add() take. */
    private record Copy(int[] asks, List<int[]> instructions) {
    }

    private final String name;
    private final int program;
    private final int answer;
    private final Both source;
    private final List<Copy> copies = new ArrayList<>();

    private CopiedCodeTest(String name, int program, int answer, Both source) {
        this.name = name;
        this.program = program;
        this.answer = answer;
        this.source = source;
    }

    public static void main(String[] args) {
        countDown().goThrough();
        pairs().goThrough();
        functions().goThrough();
        System.out.println(right + " right, " + wrong + " wrong, " + stuck + " of them stuck");
        Expect.yes("some changes leave it right", right > 50);
        Expect.yes("many make it wrong", wrong > 1000);
        Expect.yes("many make it get stuck", stuck > 300);
        Expect.end();
    }

    /** A function that calls itself until its argument is 0, and then gives 7. */
    private static CopiedCodeTest countDown() {
        Both both = new Both("count down");
        int function = both.type(2, 0, 0, 0);
        int n = both.make(1, 0, 0, 0, 0);
        int itself = both.make(1, 1, 0, 0, 0);
        int less = both.make(3, 0, n, both.make(0, 1, 0, 0, 0), 0);
        int again = both.make(7, 0, itself, less, 0);
        int body = both.make(5, 0, n, both.make(0, 7, 0, 0, 0), again);
        int lambda = both.make(6, function, body, 0, 0);
        return new CopiedCodeTest("count down", both.make(7, 0, lambda, both.make(0, 2, 0, 0, 0), 0), 7, both);
    }

    /** The parts of a pair, times each other. */
    private static CopiedCodeTest pairs() {
        Both both = new Both("pairs");
        int pair = both.type(1, 0, 0, 0);
        int function = both.type(2, pair, 0, 0);
        int p = both.make(1, 0, 0, 0, 0);
        int body = both.make(4, 0, both.make(9, 0, p, 0, 0), both.make(10, 0, p, 0, 0), 0);
        int lambda = both.make(6, function, body, 0, 0);
        int two = both.make(8, 0, both.make(0, 6, 0, 0, 0), both.make(0, 9, 0, 0, 0), 0);
        return new CopiedCodeTest("pairs", both.make(7, 0, lambda, two, 0), 54, both);
    }

    /** A function that is given a function, and calls it with 5. */
    private static CopiedCodeTest functions() {
        Both both = new Both("functions");
        int small = both.type(2, 0, 0, 0);
        int large = both.type(2, small, 0, 0);
        int variable = both.make(1, 0, 0, 0, 0);
        int five = both.make(0, 5, 0, 0, 0);
        int caller = both.make(6, large, both.make(7, 0, variable, five, 0), 0, 0);
        int called = both.make(6, small, both.make(2, 0, variable, five, 0), 0, 0);
        return new CopiedCodeTest("functions", both.make(7, 0, caller, called, 0), 10, both);
    }

    private void goThrough() {
        source.compile(program);
        source.run(1000);
        for (Model.Block block : source.model.blocks) {
            copies.add(copyOf(block));
        }
        Both same = written("as it is");
        Expect.due(name + ", by hand: check()", same.check(), -1);
        same.run(1000);
        same.registers();
        Expect.due(name + ", by hand: the machine", Build.machine(same.mill), Build.machine(source.mill));
        Expect.due(name + ", by hand: register 2", same.register(2, 1), answer);
        for (int block = 0; block < copies.size(); block++) {
            changeAsks(block);
            for (int k = 0; k < copies.get(block).instructions.size(); k++) {
                changeInstruction(block, k);
            }
        }
    }

    private Copy copyOf(Model.Block block) {
        int[] asks = new int[3];
        for (int k = 0; k < 3; k++) {
            asks[k] = typeFor(block.asks[k]);
        }
        List<int[]> instructions = new ArrayList<>();
        for (Model.Instruction i : block.instructions) {
            int c = i.operation() == WRAP ? typeFor(i.type()) : i.c();
            instructions.add(new int[] {i.operation(), i.a(), i.b(), c});
        }
        return new Copy(asks, instructions);
    }

    /** The number of this type, which is made with all its parts. */
    private int typeFor(Model.Ty type) {
        if (type == null) {
            return NONE;
        }
        if (type.kind == 0) {
            return 0;
        }
        int made = source.type(type.kind, typeFor(type.a), typeFor(type.b), typeFor(type.c));
        Expect.yes(name + ": its types can all be made", made >= 0);
        return made;
    }

    /** A new object with the same types and the copied code. */
    private Both written(String change) {
        Both both = new Both(name + ", " + change);
        for (int t = 1; t < source.model.types.size(); t++) {
            Model.Ty type = source.model.types.get(t);
            both.type(type.kind, numberOf(type.a), numberOf(type.b), numberOf(type.c));
        }
        for (Copy copy : copies) {
            both.block(copy.asks[0], copy.asks[1], copy.asks[2]);
            for (int[] i : copy.instructions) {
                both.add(i[0], i[1], i[2], i[3]);
            }
        }
        return both;
    }

    private int numberOf(Model.Ty type) {
        return source.model.types.indexOf(type);
    }

    private void judge(String change) {
        Both both = written(change);
        boolean isRight = both.check() == -1;
        both.run(1000);
        both.registers();
        right += isRight ? 1 : 0;
        wrong += isRight ? 0 : 1;
        stuck += both.mill.state() == 2 ? 1 : 0;
        Expect.yes(name + ", " + change + ": right code is not STUCK", !isRight || both.mill.state() != 2);
    }

    private void changeAsks(int block) {
        int[] asks = copies.get(block).asks;
        for (int k = 0; k < 3; k++) {
            int kept = asks[k];
            for (asks[k] = NONE; asks[k] < source.model.types.size(); asks[k]++) {
                judge("block " + block + " asks " + asks[k] + " of " + (k + 1));
            }
            asks[k] = kept;
        }
    }

    private void changeInstruction(int block, int k) {
        List<int[]> instructions = copies.get(block).instructions;
        String where = "block " + block + ", instruction " + k;
        int[] kept = instructions.remove(k);
        judge(where + " left out");
        instructions.add(k, kept);
        instructions.add(k, kept);
        judge(where + " twice");
        instructions.remove(k);
        for (int place = 1; place <= 3; place++) {
            for (int number = leastAt(kept[0], place); number <= mostAt(kept[0], place); number++) {
                int[] changed = kept.clone();
                changed[place] = number;
                instructions.set(k, changed);
                judge(where + ": number " + place + " is " + number);
            }
        }
        for (int operation = SET; operation <= HALT; operation++) {
            instructions.set(k, new int[] {operation, kept[1], kept[2], kept[3]});
            judge(where + ": operation " + operation);
        }
        instructions.set(k, kept);
    }

    private static int leastAt(int operation, int place) {
        boolean any = operation == SET && place == 2 || operation == LOAD && place == 3;
        return any || operation == WRAP && place == 3 || isBlock(operation, place) ? 0 : 1;
    }

    /** One more than there are, where add() takes that; -1 where the operation has no number. */
    private int mostAt(int operation, int place) {
        if (isBlock(operation, place)) {
            return copies.size();
        }
        if (operation == WRAP && place == 3) {
            return source.model.types.size();
        }
        if (operation == LOAD && place == 3 || operation == SET && place == 2) {
            return 1;
        }
        boolean one = operation == SET || operation == NAME || operation == BRANCH || operation == GO;
        int numbers = operation == HALT || operation == JUMP ? 0 : one ? 1 : 3;
        return place <= numbers ? 5 : NONE;
    }

    private static boolean isBlock(int operation, int place) {
        return operation == JUMP && place == 1 || (operation == NAME || operation == BRANCH) && place == 2;
    }
}
