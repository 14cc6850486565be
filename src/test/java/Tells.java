import java.util.ArrayList;
import java.util.List;
import java.util.function.Consumer;
import java.util.function.Function;

/**
 * All that an object tells, to see whether calls leave it as it was. The questions are put in slices, each to
 * an object of its own that was made by the same calls: an object is used for 512 calls at most.
 */
final class Tells {
    private record Question(String call, Function<TypedMill, String> ask) {
    }

    private static final int SLICE = 100;
    private static final List<List<Question>> SLICES = slices();

    private final Consumer<TypedMill> making;
    private final List<List<String>> answers = new ArrayList<>();

    /** What objects tell that are made so. */
    Tells(Consumer<TypedMill> making) {
        this.making = making;
        for (List<Question> slice : SLICES) {
            TypedMill mill = new TypedMill();
            making.accept(mill);
            List<String> told = new ArrayList<>();
            for (Question question : slice) {
                told.add(question.ask.apply(mill));
            }
            answers.add(told);
        }
    }

    /** Such an object tells the same behind these calls. */
    void stay(String what, Consumer<TypedMill> calls) {
        for (int s = 0; s < answers.size(); s++) {
            TypedMill mill = new TypedMill();
            making.accept(mill);
            calls.accept(mill);
            for (int q = 0; q < answers.get(s).size(); q++) {
                Question question = SLICES.get(s).get(q);
                Expect.due(question.call + " behind " + what, question.ask.apply(mill), answers.get(s).get(q));
            }
        }
    }

    private static List<List<Question>> slices() {
        List<Question> reading = new ArrayList<>();
        readMill(reading);
        readCode(reading);
        List<List<Question>> all = new ArrayList<>();
        for (int from = 0; from < reading.size(); from += SLICE) {
            all.add(reading.subList(from, Math.min(from + SLICE, reading.size())));
        }
        all.add(evaluations());
        all.add(compilations());
        all.add(additions());
        all.add(running(1));
        all.add(running(1000));
        return all;
    }

    private static void put(List<Question> to, String call, Function<TypedMill, Object> ask) {
        to.add(new Question(call, mill -> String.valueOf(ask.apply(mill))));
    }

    private static void readMill(List<Question> to) {
        put(to, "steps()", TypedMill::steps);
        put(to, "check()", TypedMill::check);
        put(to, "the machine", Build::machine);
        for (int t = 0; t <= 30; t++) {
            int type = t;
            put(to, "size(" + t + ")", mill -> mill.size(type));
            for (int e = 0; e <= 40; e++) {
                int expression = e;
                put(to, "is(" + e + ", " + t + ")", mill -> mill.is(expression, type));
            }
        }
    }

    private static void readCode(List<Question> to) {
        for (int k = 0; k <= 40; k++) {
            for (int w = 0; w <= 4; w++) {
                int block = k;
                int what = w;
                put(to, "look(" + k + ", " + w + ")", mill -> mill.look(block, what));
            }
        }
        for (int k = 0; k <= 300; k++) {
            for (int w = 0; w <= 3; w++) {
                int instruction = k;
                int what = w;
                put(to, "instruction(" + k + ", " + w + ")", mill -> mill.instruction(instruction, what));
            }
        }
    }

    private static List<Question> evaluations() {
        List<Question> to = new ArrayList<>();
        for (int e = 0; e <= 40; e++) {
            int expression = e;
            put(to, "evaluate(" + e + ")", mill -> Expect.answer(() -> mill.evaluate(expression)));
            put(to, "steps() of " + e, TypedMill::steps);
        }
        return to;
    }

    private static List<Question> compilations() {
        List<Question> to = new ArrayList<>();
        for (int e = 0; e <= 40; e++) {
            int expression = e;
            put(to, "compile(" + e + ")", mill -> Expect.answer(() -> mill.compile(expression)));
            put(to, "run() of " + e, mill -> mill.run(1000));
            put(to, "its answer", mill -> mill.register(2, 1));
        }
        return to;
    }

    /** What comes next tells how many there are. */
    private static List<Question> additions() {
        List<Question> to = new ArrayList<>();
        put(to, "a type", mill -> mill.type(4, -1, 0, -1));
        put(to, "an expression", mill -> mill.make(0, 1, 0, 0, 0));
        put(to, "an instruction", mill -> mill.add(12, 0, 0, 0));
        put(to, "a block", mill -> mill.block(-1, -1, -1));
        put(to, "its instruction", mill -> mill.add(12, 0, 0, 0));
        put(to, "check() then", TypedMill::check);
        put(to, "run() then", mill -> mill.run(1000));
        put(to, "the machine then", Build::machine);
        return to;
    }

    private static List<Question> running(int n) {
        List<Question> to = new ArrayList<>();
        for (int k = 0; k < 4; k++) {
            put(to, "run(" + n + ")", mill -> mill.run(n));
            put(to, "the machine behind run(" + n + ")", Build::machine);
        }
        return to;
    }
}
