import java.util.Random;

/** Any calls with any numbers, small ones most of all: the model agrees on each answer. */
final class RandomCallsTest {
    private static final int ROUNDS = 3000;
    private static final int CALLS = 500;

    private final Random random;
    private final Both both;

    private RandomCallsTest(int seed) {
        random = new Random(seed);
        both = new Both("calls, seed " + seed);
    }

    public static void main(String[] args) {
        for (int seed = 0; seed < ROUNDS; seed++) {
            RandomCallsTest test = new RandomCallsTest(seed);
            for (int k = 0; k < CALLS && test.both.agree(); k++) {
                test.anyCall();
            }
        }
        Expect.yes("the calls were made", true);
        Expect.end();
    }

    private int small(int most) {
        if (random.nextInt(60) == 0) {
            int[] edges = {Integer.MIN_VALUE, Integer.MAX_VALUE, -2, 40, 39, 30, 29, 300, 1000, 1001};
            return edges[random.nextInt(edges.length)];
        }
        return random.nextInt(most + 2) - 1;
    }

    private int expression() {
        return small(both.model.expressions.size());
    }

    private int aType() {
        return small(both.model.types.size());
    }

    private void anyCall() {
        switch (random.nextInt(20)) {
            case 0 -> both.type(small(5), aType(), aType(), aType());
            case 1 -> both.size(aType());
            case 2, 3, 4 -> {
                int kind = small(10);
                both.make(kind, kind == 6 ? aType() : small(21), expression(), expression(), expression());
            }
            case 5 -> both.is(expression(), aType());
            case 6 -> both.evaluate(expression());
            case 7 -> {
                if (random.nextInt(4) == 0) {
                    both.compile(expression());
                }
            }
            case 8 -> {
                if (random.nextInt(12) == 0) {
                    both.clear();
                }
            }
            case 9, 10 -> both.block(aType(), aType(), aType());
            case 11, 12, 13, 14 -> both.add(small(12), small(5), small(5), small(5));
            case 15 -> both.check();
            case 16 -> both.instruction(small(both.model.written.size()), small(4));
            case 17 -> both.look(small(both.model.blocks.size()), small(5));
            case 18 -> both.run(small(1000));
            default -> {
                both.state();
                both.register(small(6), small(2));
            }
        }
    }
}
