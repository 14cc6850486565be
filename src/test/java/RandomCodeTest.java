import java.util.ArrayList;
import java.util.List;
import java.util.Random;

/**
 * Random code, most of it right up to some place: the model agrees on what the checker says and on every
 * run, and code that the checker calls right is never STUCK.
 */
final class RandomCodeTest {
    private static final int ROUNDS = 8000;
    private static int right;
    private static int wrong;
    private static int stuck;
    private static int opened;

    private final Random random;
    private final Both both;

    private RandomCodeTest(int seed) {
        random = new Random(seed);
        both = new Both("code, seed " + seed);
    }

    public static void main(String[] args) {
        for (int seed = 0; seed < ROUNDS; seed++) {
            RandomCodeTest test = new RandomCodeTest(seed);
            test.makeTypes();
            for (int k = 0; k < 3 && test.both.agree(); k++) {
                test.oneCode();
            }
        }
        System.out.println(right + " right (" + opened + " with OPEN), " + wrong + " wrong, " + stuck + " stuck");
        Expect.yes("much code is right", right > ROUNDS / 4);
        Expect.yes("some right code has an OPEN", opened > 100);
        Expect.yes("much code is wrong", wrong > ROUNDS / 4);
        Expect.yes("some code is stuck", stuck > ROUNDS / 10);
        Expect.end();
    }

    /** Types that code can make use of: what waits, functions, and the blocks that they are made from. */
    private void makeTypes() {
        int function = both.type(2, 0, 0, 0);
        int waits = both.type(3, 0, 0, 0);
        both.type(4, 0, 0, waits);
        both.type(4, 0, 0, -1);
        for (int k = 0; k < 5; k++) {
            int count = both.model.types.size();
            both.type(1 + random.nextInt(4), random.nextInt(count), random.nextInt(count), random.nextInt(count) - 1);
        }
        if (random.nextBoolean()) {
            both.type(1, function, waits, 0);
        }
    }

    private int anyTypeOrNone() {
        return random.nextInt(3) == 0 ? -1 : random.nextInt(both.model.types.size());
    }

    private void oneCode() {
        both.clear();
        int many = 1 + random.nextInt(6);
        int slips = random.nextInt(3) == 0 ? 10 : 1000000;
        List<int[]> asks = new ArrayList<>();
        List<Model.Block> planned = new ArrayList<>();
        for (int b = 0; b < many; b++) {
            boolean first = b == 0 && random.nextInt(20) != 0;
            int[] asked = first ? new int[] {random.nextInt(2) - 1, -1, -1}
                    : random.nextInt(3) == 0 ? new int[] {0, 0, random.nextBoolean() ? -1 : 2}
                    : new int[] {anyTypeOrNone(), anyTypeOrNone(), anyTypeOrNone()};
            asks.add(asked);
            planned.add(new Model.Block(at(asked[0]), at(asked[1]), at(asked[2])));
        }
        for (int b = 0; b < many; b++) {
            both.block(asks.get(b)[0], asks.get(b)[1], asks.get(b)[2]);
            oneBlock(planned.get(b), planned, slips);
            if (random.nextInt(10) == 0) {
                both.check();
                both.run(random.nextInt(10));
            }
        }
        judge();
    }

    private Model.Ty at(int type) {
        return type < 0 ? null : both.model.types.get(type);
    }

    /** Instructions that are right where they stand, but for a slip now and then. */
    private void oneBlock(Model.Block block, List<Model.Block> planned, int slips) {
        Model.Ty[] held = Model.heldAtFirst(block.asks);
        int length = random.nextInt(14);
        for (int k = 0; k < length; k++) {
            boolean slip = random.nextInt(slips) == 0;
            for (int tries = 0; tries < 40; tries++) {
                int[] i = anyInstruction(planned.size(), slip ? 13 : 9, 0);
                if (tries < 39 && !slip && i[0] < 4 && random.nextBoolean()) {
                    continue;
                }
                if (slip || isRight(i, held, planned)) {
                    both.add(i[0], i[1], i[2], i[3]);
                    break;
                }
            }
        }
        for (int tries = 0; tries < 60; tries++) {
            int[] i = anyInstruction(planned.size(), 4, 9);
            if (i[0] != 10 && isRight(i, held, planned)) {
                both.add(i[0], i[1], i[2], i[3]);
                return;
            }
            if (tries == 40 && random.nextInt(10) != 0) {
                both.add(0, 2, 1, 0);
                held[2] = both.model.number;
            }
        }
    }

    private boolean isRight(int[] i, Model.Ty[] held, List<Model.Block> planned) {
        Model.Instruction formed = both.model.form(i[0], i[1], i[2], i[3]);
        if (formed == null) {
            return false;
        }
        Model.Ty[] after = held.clone();
        if (!both.model.right(formed, after, planned)) {
            return false;
        }
        System.arraycopy(after, 0, held, 0, held.length);
        return true;
    }

    /** One of so many operations, from this one on; BRANCH among the first nine, too. */
    private int[] anyInstruction(int blocks, int operations, int from) {
        int operation = from + random.nextInt(operations);
        if (from == 0 && random.nextInt(12) == 0) {
            operation = 10;
        }
        int a = 1 + random.nextInt(5);
        int b = 1 + random.nextInt(5);
        int c = 1 + random.nextInt(5);
        if (operation == 0) {
            b = random.nextInt(5) - 1;
        } else if (operation == 5) {
            c = random.nextInt(2);
        } else if (operation == 6 || operation == 10) {
            b = random.nextInt(blocks);
        } else if (operation == 7) {
            c = random.nextInt(both.model.types.size());
        } else if (operation == 9) {
            a = random.nextInt(blocks);
        }
        if (random.nextInt(150) == 0) {
            a = random.nextInt(9) - 2;
            b = random.nextInt(9) - 2;
            c = random.nextInt(9) - 2;
        }
        return new int[] {operation, a, b, c};
    }

    private void judge() {
        int verdict = both.check();
        both.allCode();
        for (int k = 0; k < 3; k++) {
            both.run(random.nextInt(40));
            both.registers();
        }
        both.run(1000);
        both.registers();
        stuck += both.mill.state() == 2 ? 1 : 0;
        if (verdict == -1) {
            right++;
            boolean opens = both.model.written.stream().anyMatch(i -> i.operation() == 8);
            opened += opens ? 1 : 0;
            Expect.yes("right code is not STUCK", both.mill.state() != 2);
        } else {
            wrong++;
        }
    }
}
