import java.util.ArrayList;
import java.util.List;
import java.util.Random;

/**
 * Random programs, most of them typed: the model agrees on all that is told of them, their compiled code is
 * right, never gets stuck, and comes to the same number as evaluate().
 */
final class RandomProgramsTest {
    private static final int ROUNDS = 6000;
    private static int halted;
    private static int over;
    private static int large;
    private static int full;

    private final Random random;
    private final Both both;

    private RandomProgramsTest(int seed) {
        random = new Random(seed);
        both = new Both("programs, seed " + seed);
    }

    public static void main(String[] args) {
        for (int seed = 0; seed < ROUNDS; seed++) {
            RandomProgramsTest test = new RandomProgramsTest(seed);
            test.makeTypes();
            for (int k = 0; k < 6 && test.both.agree(); k++) {
                test.oneProgram();
            }
        }
        System.out.println(halted + " halted, " + full + " full, " + over + " over, " + large + " too large");
        Expect.yes("many programs come to an end", halted > ROUNDS / 2);
        Expect.yes("some are over", over > 20);
        Expect.yes("some do not fit", large > 20);
        Expect.end();
    }

    private void makeTypes() {
        both.type(2, 0, 0, 0);
        for (int k = 0; k < 6; k++) {
            int count = both.model.types.size();
            int kind = random.nextInt(8) == 0 ? 3 + random.nextInt(2) : 1 + random.nextInt(2);
            both.type(kind, random.nextInt(count), random.nextInt(count), random.nextInt(count + 1) - 1);
        }
    }

    private void oneProgram() {
        int goal = random.nextInt(5) == 0 ? random.nextInt(both.model.types.size()) : 0;
        int expression = make(both.model.types.get(goal), List.of(), 2 + random.nextInt(7));
        if (random.nextInt(4) == 0) {
            expression = random.nextInt(both.model.expressions.size() + 1);
        }
        for (int k = 0; k < 5 && random.nextInt(3) == 0; k++) {
            int doubled = random.nextBoolean() ? both.make(2, 0, expression, expression, 0)
                    : both.make(5, 0, expression, expression, expression);
            expression = Math.max(expression, doubled);
        }
        both.is(expression, goal);
        for (int t = 0; t < both.model.types.size(); t++) {
            both.is(expression, t);
        }
        boolean program = both.model.is(expression, 0);
        int answer = both.evaluate(expression);
        boolean known = program && evaluates(expression);
        int instructions = both.compile(expression);
        both.check();
        if (instructions >= 0) {
            runToTheEnd(known, answer);
        } else {
            large += program ? 1 : 0;
        }
        both.run(random.nextInt(20));
        both.registers();
    }

    private boolean evaluates(int expression) {
        try {
            both.model.evaluate(expression);
            return true;
        } catch (IllegalStateException thrown) {
            over++;
            return false;
        }
    }

    private void runToTheEnd(boolean known, int answer) {
        both.allCode();
        Expect.due("check() of compiled code", both.mill.check(), -1);
        for (int k = 0; k < 5; k++) {
            both.run(random.nextInt(300));
            both.registers();
        }
        for (int k = 0; k < 10; k++) {
            both.run(1000);
        }
        both.registers();
        Expect.yes("compiled code is not STUCK", both.mill.state() != 2);
        full += both.mill.state() == 3 ? 1 : 0;
        if (both.mill.state() == 1 && known) {
            halted++;
            Expect.due("the compiled program's answer", both.mill.register(2, 1), answer);
        }
    }

    /** An expression that has this type with these bound, the innermost first; -1 if none came about. */
    private int make(Model.Ty type, List<Model.Ty> bound, int height) {
        List<Integer> fitting = new ArrayList<>();
        for (int a = 0; a < bound.size() && a <= 20; a++) {
            if (bound.get(a) == type) {
                fitting.add(a);
            }
        }
        if (!fitting.isEmpty() && random.nextInt(height <= 2 ? 2 : 5) != 0) {
            return both.make(1, fitting.get(random.nextInt(fitting.size())), 0, 0, 0);
        }
        List<Integer> there = new ArrayList<>();
        for (int e = 0; e < both.model.expressions.size(); e++) {
            Model.Expression one = both.model.expressions.get(e);
            if (one.height() <= height && both.model.typeOf(one, bound) == type) {
                there.add(e);
            }
        }
        boolean scarce = both.model.expressions.size() > 34;
        if (!there.isEmpty() && (scarce || random.nextInt(4) == 0)) {
            return there.get(random.nextInt(there.size()));
        }
        if (height <= 1) {
            return type.kind == 0 ? both.make(0, random.nextInt(7) - 2, 0, 0, 0) : -1;
        }
        return makeWithParts(type, bound, height);
    }

    private int makeWithParts(Model.Ty type, List<Model.Ty> bound, int height) {
        int way = random.nextInt(10);
        if (type.kind == 2 && way < 7) {
            List<Model.Ty> more = new ArrayList<>(List.of(type.a, type));
            more.addAll(bound);
            return both.make(6, both.model.types.indexOf(type), make(type.b, more, height - 1), 0, 0);
        }
        if (type.kind == 1 && way < 6) {
            return both.make(8, 0, make(type.a, bound, height - 1), make(type.b, bound, height - 1), 0);
        }
        if (type.kind == 0 && way < 4) {
            int kind = way == 3 ? 0 : 2 + random.nextInt(3);
            int value = random.nextInt(20) == 0 ? random.nextInt() : random.nextInt(7) - 2;
            return kind == 0 ? both.make(0, value, 0, 0, 0)
                    : both.make(kind, 0, make(type, bound, height - 1), make(type, bound, height - 1), 0);
        }
        if (way < 6) {
            int x = make(both.model.number, bound, height - 1);
            return both.make(5, 0, x, make(type, bound, height - 1), make(type, bound, height - 1));
        }
        return makeFromLarger(type, bound, height);
    }

    /** A part of a pair, or what a function gives. */
    private int makeFromLarger(Model.Ty type, List<Model.Ty> bound, int height) {
        List<Model.Ty> larger = new ArrayList<>();
        for (Model.Ty t : both.model.types) {
            if (t.kind == 2 && t.b == type || t.kind == 1 && (t.a == type || t.b == type)) {
                larger.add(t);
            }
        }
        if (larger.isEmpty()) {
            return -1;
        }
        Model.Ty chosen = larger.get(random.nextInt(larger.size()));
        int x = make(chosen, bound, height - 1);
        if (chosen.kind == 1) {
            return both.make(chosen.a == type ? 9 : 10, 0, x, 0, 0);
        }
        return both.make(7, 0, x, make(chosen.a, bound, height - 1), 0);
    }
}
