import java.util.ArrayList;
import java.util.List;
import java.util.function.IntSupplier;

/** Makes each call on the program and on the model, and reports where their answers part. */
final class Both {
    final TypedMill mill = new TypedMill();
    final Model model = new Model();
    private final String name;
    private final List<String> calls = new ArrayList<>();
    private boolean parted;

    Both(String name) {
        this.name = name;
    }

    boolean agree() {
        return !parted;
    }

    private int same(String call, IntSupplier program, IntSupplier plain) {
        String got = Expect.answer(program);
        String want = Expect.answer(plain);
        calls.add(call + " " + got);
        if (!got.equals(want) && !parted) {
            parted = true;
            Expect.due(name + ": " + calls + "\n" + call, got, want);
        }
        return want.startsWith("throws") ? -1 : Integer.parseInt(want);
    }

    int type(int kind, int a, int b, int c) {
        return same("type(" + kind + ", " + a + ", " + b + ", " + c + ")", () -> mill.type(kind, a, b, c),
                () -> model.type(kind, a, b, c));
    }

    int size(int type) {
        return same("size(" + type + ")", () -> mill.size(type), () -> model.size(type));
    }

    int make(int kind, int a, int x, int y, int z) {
        return same("make(" + kind + ", " + a + ", " + x + ", " + y + ", " + z + ")",
                () -> mill.make(kind, a, x, y, z), () -> model.make(kind, a, x, y, z));
    }

    int is(int e, int t) {
        return same("is(" + e + ", " + t + ")", () -> mill.is(e, t) ? 1 : 0, () -> model.is(e, t) ? 1 : 0);
    }

    int evaluate(int e) {
        int answer = same("evaluate(" + e + ")", () -> mill.evaluate(e), () -> model.evaluate(e));
        same("steps()", mill::steps, () -> model.steps);
        return answer;
    }

    int compile(int e) {
        return same("compile(" + e + ")", () -> mill.compile(e), () -> model.compile(e));
    }

    void clear() {
        mill.clear();
        model.clear();
        calls.add("clear()");
    }

    int block(int one, int two, int three) {
        return same("block(" + one + ", " + two + ", " + three + ")", () -> mill.block(one, two, three),
                () -> model.block(one, two, three));
    }

    int add(int operation, int a, int b, int c) {
        return same("add(" + operation + ", " + a + ", " + b + ", " + c + ")", () -> mill.add(operation, a, b, c),
                () -> model.add(operation, a, b, c));
    }

    int check() {
        return same("check()", mill::check, model::check);
    }

    int run(int n) {
        return same("run(" + n + ")", () -> mill.run(n), () -> model.run(n));
    }

    int state() {
        return same("state()", mill::state, model::state);
    }

    int register(int k, int what) {
        return same("register(" + k + ", " + what + ")", () -> mill.register(k, what), () -> model.register(k, what));
    }

    int look(int block, int what) {
        return same("look(" + block + ", " + what + ")", () -> mill.look(block, what), () -> model.look(block, what));
    }

    int instruction(int k, int what) {
        return same("instruction(" + k + ", " + what + ")", () -> mill.instruction(k, what),
                () -> model.instruction(k, what));
    }

    void registers() {
        for (int k = 1; k <= 5; k++) {
            register(k, 0);
            register(k, 1);
        }
        state();
    }

    void allCode() {
        for (int block = 0; block <= model.blocks.size(); block++) {
            for (int what = 0; what <= 4; what++) {
                look(block, what);
            }
        }
        for (int k = 0; k <= model.written.size(); k++) {
            for (int what = 0; what <= 3; what++) {
                instruction(k, what);
            }
        }
    }
}
