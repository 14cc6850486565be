import java.util.ArrayList;
import java.util.HashMap;
import java.util.List;
import java.util.Map;
import java.util.NoSuchElementException;

/**
 * The document once more, written for plainness alone and on its own: objects in place of rows, and
 * nothing is ever forgotten. The random tests compare it with the program call by call.
 */
final class Model {
    static final class Ty {
        final int kind;
        final Ty a;
        final Ty b;
        final Ty c;
        final int size;

        Ty(int kind, Ty a, Ty b, Ty c) {
            this.kind = kind;
            this.a = a;
            this.b = b;
            this.c = c;
            size = 1 + (a == null ? 0 : a.size) + (b == null ? 0 : b.size) + (c == null ? 0 : c.size);
        }
    }

    record Expression(int kind, int a, Expression x, Expression y, Expression z, int height) {
    }

    record Instruction(int operation, int a, int b, int c, Ty type) {
    }

    static final class Block {
        final Ty[] asks;
        final List<Instruction> instructions = new ArrayList<>();
        int first;

        Block(Ty one, Ty two, Ty three) {
            asks = new Ty[] {one, two, three};
        }
    }

    private record Bound(Bound before, Ty type, boolean variable, Ty environment) {
    }

    private record Function(Expression lambda, Scope scope) {
    }

    private record Two(Object first, Object second) {
    }

    private record Scope(Object function, Object argument, Scope outer) {
    }

    private record Body(Expression lambda, Bound environment, int block) {
    }

    private static final class Over extends RuntimeException {
        private static final long serialVersionUID = 1L;
    }

    private final Map<List<Object>, Ty> known = new HashMap<>();
    final Ty number = find(0, null, null, null);
    final List<Ty> types = new ArrayList<>(List.of(number));
    final List<Expression> expressions = new ArrayList<>();
    List<Block> blocks = new ArrayList<>();
    List<Instruction> written = new ArrayList<>();
    boolean compiled;
    int steps;

    private Ty find(int kind, Ty a, Ty b, Ty c) {
        List<Object> key = new ArrayList<>();
        key.add(kind);
        key.add(a);
        key.add(b);
        key.add(c);
        return known.computeIfAbsent(key, k -> new Ty(kind, a, b, c));
    }

    private Ty typeAt(int k) {
        return k >= 0 && k < types.size() ? types.get(k) : null;
    }

    private boolean typeOrNone(int k) {
        return k == -1 || typeAt(k) != null;
    }

    int type(int kind, int a, int b, int c) {
        Ty made;
        if ((kind == 1 || kind == 2) && typeAt(a) != null && typeAt(b) != null) {
            made = find(kind, typeAt(a), typeAt(b), null);
        } else if (kind == 3 && typeAt(a) != null) {
            made = find(3, typeAt(a), null, null);
        } else if (kind == 4 && typeOrNone(a) && typeOrNone(b) && typeOrNone(c)) {
            made = find(4, typeAt(a), typeAt(b), typeAt(c));
        } else {
            return -1;
        }
        if (types.contains(made)) {
            return types.indexOf(made);
        }
        if (made.size > 30 || types.size() == 30) {
            return -1;
        }
        types.add(made);
        return types.size() - 1;
    }

    int size(int type) {
        return typeAt(type) == null ? -1 : typeAt(type).size;
    }

    private Expression expressionAt(int k) {
        return k >= 0 && k < expressions.size() ? expressions.get(k) : null;
    }

    int make(int kind, int a, int x, int y, int z) {
        if (kind < 0 || kind > 10 || expressions.size() == 40) {
            return -1;
        }
        int parts = kind < 2 ? 0 : kind == 5 ? 3 : kind == 6 || kind > 8 ? 1 : 2;
        int[] numbers = {x, y, z};
        Expression[] found = new Expression[3];
        int height = 1;
        for (int k = 0; k < parts; k++) {
            found[k] = expressionAt(numbers[k]);
            if (found[k] == null) {
                return -1;
            }
            height = Math.max(height, found[k].height + 1);
        }
        boolean wrongVariable = kind == 1 && (a < 0 || a > 20);
        boolean wrongLambda = kind == 6 && (typeAt(a) == null || typeAt(a).kind != 2);
        if (height > 8 || wrongVariable || wrongLambda) {
            return -1;
        }
        expressions.add(new Expression(kind, a, found[0], found[1], found[2], height));
        return expressions.size() - 1;
    }

    /** The type with these bound, the innermost first; null for none. */
    Ty typeOf(Expression e, List<Ty> bound) {
        if (e.kind == 0) {
            return number;
        }
        if (e.kind == 1) {
            return e.a < bound.size() ? bound.get(e.a) : null;
        }
        if (e.kind == 6) {
            Ty function = types.get(e.a);
            List<Ty> more = new ArrayList<>(List.of(function.a, function));
            more.addAll(bound);
            return typeOf(e.x, more) == function.b ? function : null;
        }
        Ty x = typeOf(e.x, bound);
        Ty y = e.y == null ? null : typeOf(e.y, bound);
        Ty z = e.z == null ? null : typeOf(e.z, bound);
        switch (e.kind) {
            case 5:
                return x == number && y == z ? y : null;
            case 7:
                return x != null && x.kind == 2 && x.a == y ? x.b : null;
            case 8:
                return x == null || y == null ? null : find(1, x, y, null);
            case 9:
                return x != null && x.kind == 1 ? x.a : null;
            case 10:
                return x != null && x.kind == 1 ? x.b : null;
            default:
                return x == number && y == number ? number : null;
        }
    }

    boolean is(int expression, int type) {
        Expression e = expressionAt(expression);
        return e != null && typeAt(type) != null && typeOf(e, List.of()) == typeAt(type);
    }

    private Expression program(int expression) {
        Expression e = expressionAt(expression);
        if (e == null) {
            throw new NoSuchElementException();
        }
        if (typeOf(e, List.of()) != number) {
            throw new IllegalArgumentException();
        }
        return e;
    }

    int evaluate(int expression) {
        Expression e = program(expression);
        steps = 0;
        try {
            return (Integer) evaluate(e, null, 1);
        } catch (Over over) {
            throw new IllegalStateException();
        }
    }

    private Object evaluate(Expression e, Scope scope, int depth) {
        if (steps + 1 > 500 || depth > 60) {
            throw new Over();
        }
        steps++;
        switch (e.kind) {
            case 0:
                return e.a;
            case 1:
                Scope at = scope;
                for (int k = 0; k < e.a / 2; k++) {
                    at = at.outer;
                }
                return e.a % 2 == 0 ? at.argument : at.function;
            case 5:
                boolean zero = evaluate(e.x, scope, depth + 1).equals(0);
                return evaluate(zero ? e.y : e.z, scope, depth + 1);
            case 6:
                return new Function(e, scope);
            case 9:
                return ((Two) evaluate(e.x, scope, depth + 1)).first;
            case 10:
                return ((Two) evaluate(e.x, scope, depth + 1)).second;
            default:
                Object x = evaluate(e.x, scope, depth + 1);
                Object y = evaluate(e.y, scope, depth + 1);
                return both(e.kind, x, y, depth);
        }
    }

    private Object both(int kind, Object x, Object y, int depth) {
        switch (kind) {
            case 2:
                return (Integer) x + (Integer) y;
            case 3:
                return (Integer) x - (Integer) y;
            case 4:
                return (Integer) x * (Integer) y;
            case 7:
                Function f = (Function) x;
                return evaluate(f.lambda.x, new Scope(f, y, f.scope), depth + 1);
            default:
                return new Two(x, y);
        }
    }

    private final class Compilation {
        final List<Block> blocks = new ArrayList<>();
        final List<Instruction> written = new ArrayList<>();
        final List<Body> bodies = new ArrayList<>();
        Block here;

        int name() {
            blocks.add(null);
            return blocks.size() - 1;
        }

        void begin(int block, Ty one, Ty two, Ty three) {
            here = new Block(one, two, three);
            here.first = written.size();
            blocks.set(block, here);
        }

        void write(Ty type, int operation, int... numbers) {
            int b = numbers.length > 1 ? numbers[1] : 0;
            int c = numbers.length > 2 ? numbers[2] : 0;
            Instruction i = new Instruction(operation, numbers.length > 0 ? numbers[0] : 0, b, c, type);
            here.instructions.add(i);
            written.add(i);
        }

        void all(Expression program) {
            begin(name(), number, null, null);
            code(program, new Bound(null, null, false, number));
            write(null, 12);
            for (int k = 0; k < bodies.size(); k++) {
                body(bodies.get(k));
            }
        }

        Bound pair(Bound before, Ty type, boolean variable) {
            return new Bound(before, type, variable, find(1, before.environment, type, null));
        }

        List<Ty> boundIn(Bound environment) {
            List<Ty> found = new ArrayList<>();
            for (Bound at = environment; at.before != null; at = at.before) {
                if (at.variable) {
                    found.add(at.type);
                }
            }
            return found;
        }

        void code(Expression e, Bound env) {
            switch (e.kind) {
                case 0 -> write(null, 0, 2, e.a);
                case 1 -> variable(e.a, env);
                case 5 -> choice(e, env);
                case 6 -> {
                    int block = name();
                    bodies.add(new Body(e, env, block));
                    write(null, 6, 4, block);
                    write(null, 4, 4, 4, 1);
                    write(types.get(e.a), 7, 2, 4);
                }
                case 7 -> call(e, env);
                case 9, 10 -> {
                    code(e.x, env);
                    write(null, 5, 2, 2, e.kind - 9);
                }
                default -> {
                    code(e.x, env);
                    write(null, 4, 1, 1, 2);
                    code(e.y, pair(env, typeOf(e.x, boundIn(env)), false));
                    write(null, 5, 4, 1, 1);
                    write(null, e.kind == 8 ? 4 : e.kind - 1, 2, 4, 2);
                    write(null, 5, 1, 1, 0);
                }
            }
        }

        void variable(int a, Bound env) {
            int n = 0;
            int seen = 0;
            Bound at = env;
            while (!(at.variable && seen == a)) {
                seen += at.variable ? 1 : 0;
                at = at.before;
                n++;
            }
            if (n == 0) {
                write(null, 5, 2, 1, 1);
                return;
            }
            write(null, 5, 4, 1, 0);
            for (int k = 0; k < n - 1; k++) {
                write(null, 5, 4, 4, 0);
            }
            write(null, 5, 2, 4, 1);
        }

        void choice(Expression e, Bound env) {
            code(e.x, env);
            int other = name();
            write(null, 10, 2, other);
            int behind = name();
            code(e.y, env);
            write(null, 9, behind);
            begin(other, env.environment, null, null);
            code(e.z, env);
            write(null, 9, behind);
            begin(behind, env.environment, typeOf(e, boundIn(env)), null);
        }

        void call(Expression e, Bound env) {
            Ty result = typeOf(e, boundIn(env));
            code(e.x, env);
            write(null, 4, 1, 1, 2);
            code(e.y, pair(env, typeOf(e.x, boundIn(env)), false));
            int behind = name();
            write(null, 6, 4, behind);
            write(null, 5, 5, 1, 0);
            write(null, 4, 4, 4, 5);
            write(find(3, result, null, null), 7, 3, 4);
            write(null, 5, 4, 1, 1);
            write(null, 8, 5, 1, 4);
            write(null, 11, 5);
            begin(behind, env.environment, result, null);
        }

        void body(Body b) {
            Ty f = types.get(b.lambda.a);
            Ty waits = find(3, f.b, null, null);
            begin(b.block, b.environment.environment, f.a, waits);
            write(null, 6, 4, b.block);
            write(null, 4, 4, 4, 1);
            write(f, 7, 4, 4);
            write(null, 4, 1, 1, 4);
            write(null, 4, 1, 1, 3);
            write(null, 4, 1, 1, 2);
            code(b.lambda.x, pair(pair(pair(b.environment, f, true), waits, false), f.a, true));
            write(null, 5, 4, 1, 0);
            write(null, 5, 4, 4, 1);
            write(null, 8, 5, 1, 4);
            write(null, 11, 5);
        }
    }

    int compile(int expression) {
        Compilation made = new Compilation();
        made.all(program(expression));
        if (made.written.size() > 300 || made.blocks.size() > 40) {
            throw new UnsupportedOperationException();
        }
        blocks = made.blocks;
        written = made.written;
        compiled = true;
        begin();
        return written.size();
    }

    void clear() {
        blocks = new ArrayList<>();
        written = new ArrayList<>();
        compiled = false;
        begin();
    }

    int block(int one, int two, int three) {
        if (!typeOrNone(one) || !typeOrNone(two) || !typeOrNone(three) || compiled || blocks.size() == 40) {
            return -1;
        }
        Block made = new Block(typeAt(one), typeAt(two), typeAt(three));
        made.first = written.size();
        blocks.add(made);
        begin();
        return blocks.size() - 1;
    }

    private static boolean isRegister(int k) {
        return k >= 1 && k <= 5;
    }

    private static boolean isBlockNumber(int k) {
        return k >= 0 && k <= 39;
    }

    /** The instruction as it is kept, null when it is refused. */
    Instruction form(int operation, int a, int b, int c) {
        switch (operation) {
            case 0:
                return isRegister(a) ? new Instruction(0, a, b, 0, null) : null;
            case 1, 2, 3, 4, 8:
                boolean three = isRegister(a) && isRegister(b) && isRegister(c);
                return three ? new Instruction(operation, a, b, c, null) : null;
            case 5:
                boolean load = isRegister(a) && isRegister(b) && (c == 0 || c == 1);
                return load ? new Instruction(5, a, b, c, null) : null;
            case 6, 10:
                return isRegister(a) && isBlockNumber(b) ? new Instruction(operation, a, b, 0, null) : null;
            case 7:
                Ty t = typeAt(c);
                boolean wrap = isRegister(a) && isRegister(b) && t != null && (t.kind == 2 || t.kind == 3);
                return wrap ? new Instruction(7, a, b, 0, t) : null;
            case 9:
                return isBlockNumber(a) ? new Instruction(9, a, 0, 0, null) : null;
            case 11:
                return isRegister(a) ? new Instruction(11, a, 0, 0, null) : null;
            case 12:
                return new Instruction(12, 0, 0, 0, null);
            default:
                return null;
        }
    }

    int add(int operation, int a, int b, int c) {
        Instruction made = form(operation, a, b, c);
        if (blocks.isEmpty() || compiled || made == null || written.size() == 300) {
            return -1;
        }
        blocks.get(blocks.size() - 1).instructions.add(made);
        written.add(made);
        begin();
        return written.size();
    }

    int check() {
        if (blocks.isEmpty()) {
            return 0;
        }
        Ty[] zero = blocks.get(0).asks;
        if (zero[1] != null || zero[2] != null || zero[0] != null && zero[0] != number) {
            return 0;
        }
        for (int b = 0; b < blocks.size(); b++) {
            int wrong = wrongIn(blocks.get(b));
            if (wrong >= 0) {
                return 1000 * b + wrong;
            }
        }
        return -1;
    }

    private int wrongIn(Block block) {
        Ty[] held = heldAtFirst(block.asks);
        boolean ended = false;
        for (int k = 0; k < block.instructions.size(); k++) {
            Instruction i = block.instructions.get(k);
            if (ended || !right(i, held, blocks)) {
                return k;
            }
            ended = i.operation == 9 || i.operation == 11 || i.operation == 12;
        }
        return ended ? -1 : block.instructions.size();
    }

    static Ty[] heldAtFirst(Ty[] asks) {
        return new Ty[] {null, asks[0], asks[1], asks[2], null, null};
    }

    /** Whether it is right where registers have these types, which it then changes. */
    boolean right(Instruction i, Ty[] held, List<Block> there) {
        switch (i.operation) {
            case 0:
                held[i.a] = number;
                return true;
            case 1, 2, 3:
                if (held[i.b] != number || held[i.c] != number) {
                    return false;
                }
                held[i.a] = number;
                return true;
            case 4:
                if (held[i.b] == null || held[i.c] == null) {
                    return false;
                }
                held[i.a] = find(1, held[i.b], held[i.c], null);
                return true;
            case 5:
                if (held[i.b] == null || held[i.b].kind != 1) {
                    return false;
                }
                held[i.a] = i.c == 0 ? held[i.b].a : held[i.b].b;
                return true;
            case 6:
                if (i.b >= there.size()) {
                    return false;
                }
                Ty[] asks = there.get(i.b).asks;
                held[i.a] = find(4, asks[0], asks[1], asks[2]);
                return true;
            case 7:
                return wraps(i, held);
            case 8:
                return opens(i, held);
            case 9:
                return i.a < there.size() && given(there.get(i.a).asks, held);
            case 10:
                return held[i.a] == number && i.b < there.size() && given(there.get(i.b).asks, held);
            case 11:
                Ty code = held[i.a];
                return code != null && code.kind == 4 && given(new Ty[] {code.a, code.b, code.c}, held);
            default:
                return held[2] == number;
        }
    }

    private Ty entry(Ty wrapping, Ty environment) {
        Ty third = wrapping.kind == 2 ? find(3, wrapping.b, null, null) : null;
        return find(4, environment, wrapping.a, third);
    }

    private boolean wraps(Instruction i, Ty[] held) {
        Ty pair = held[i.b];
        if (pair == null || pair.kind != 1 || pair.a != entry(i.type, pair.b)) {
            return false;
        }
        held[i.a] = i.type;
        return true;
    }

    private boolean opens(Instruction i, Ty[] held) {
        Ty wrapped = held[i.c];
        if (wrapped == null || wrapped.kind != 2 && wrapped.kind != 3) {
            return false;
        }
        Ty hidden = new Ty(5, null, null, null);
        held[i.a] = entry(wrapped, hidden);
        held[i.b] = hidden;
        return true;
    }

    private static boolean given(Ty[] asks, Ty[] held) {
        for (int k = 0; k < 3; k++) {
            if (asks[k] != null && held[k + 1] != asks[k]) {
                return false;
            }
        }
        return true;
    }

    int instruction(int k, int what) {
        if (k < 0 || k >= written.size() || what < 0 || what > 3) {
            return -1;
        }
        Instruction i = written.get(k);
        int third = i.operation == 7 ? i.type.size : i.c;
        return what == 0 ? i.operation : what == 1 ? i.a : what == 2 ? i.b : third;
    }

    int look(int block, int what) {
        if (block < 0 || block >= blocks.size() || what < 0 || what > 4) {
            return -1;
        }
        Block b = blocks.get(block);
        if (what < 2) {
            return what == 0 ? b.first : b.instructions.size();
        }
        return b.asks[what - 2] == null ? 0 : b.asks[what - 2].size;
    }

    /** What a register is: its kind, and its number, block or pair. */
    record Word(int kind, int value) {
    }

    private static final Word EMPTY = new Word(0, 0);
    private Word[] registers;
    private List<Word[]> pairs;
    private int atBlock;
    private int atInstruction;
    private int state;

    {
        begin();
    }

    private void begin() {
        registers = new Word[] {EMPTY, new Word(1, 0), EMPTY, EMPTY, EMPTY, EMPTY};
        pairs = new ArrayList<>();
        atBlock = 0;
        atInstruction = 0;
        state = 0;
    }

    int run(int n) {
        if (n < 0 || n > 1000) {
            return -1;
        }
        int done = 0;
        while (done < n && state == 0) {
            if (atBlock >= blocks.size() || atInstruction >= blocks.get(atBlock).instructions.size()) {
                state = 2;
                return done;
            }
            int before = state;
            perform(blocks.get(atBlock).instructions.get(atInstruction));
            done += state == before || state == 1 ? 1 : 0;
        }
        return done;
    }

    private void set(int register, Word word) {
        registers[register] = word;
        atInstruction++;
    }

    private void enter(int block) {
        if (block >= blocks.size()) {
            state = 2;
        } else {
            atBlock = block;
            atInstruction = 0;
        }
    }

    private void perform(Instruction i) {
        Word a = i.a <= 5 ? registers[i.a] : EMPTY;
        Word b = i.b >= 0 && i.b <= 5 ? registers[i.b] : EMPTY;
        Word c = registers[i.c];
        boolean numbers = b.kind == 1 && c.kind == 1;
        switch (i.operation) {
            case 0 -> set(i.a, new Word(1, i.b));
            case 1, 2, 3 -> {
                if (numbers) {
                    int plus = i.operation == 1 ? b.value + c.value : b.value - c.value;
                    set(i.a, new Word(1, i.operation == 3 ? b.value * c.value : plus));
                } else {
                    state = 2;
                }
            }
            case 4 -> {
                if (b.kind == 0 || c.kind == 0 || pairs.size() == 400) {
                    state = b.kind == 0 || c.kind == 0 ? 2 : 3;
                } else {
                    pairs.add(new Word[] {b, c});
                    set(i.a, new Word(3, pairs.size() - 1));
                }
            }
            case 5 -> {
                if (b.kind == 3) {
                    set(i.a, pairs.get(b.value)[i.c]);
                } else {
                    state = 2;
                }
            }
            case 6 -> set(i.a, new Word(2, i.b));
            case 7 -> {
                if (b.kind == 3) {
                    set(i.a, new Word(4, b.value));
                } else {
                    state = 2;
                }
            }
            case 8 -> {
                if (c.kind == 4 && pairs.get(c.value)[0].kind == 2) {
                    registers[i.a] = pairs.get(c.value)[0];
                    set(i.b, pairs.get(c.value)[1]);
                } else {
                    state = 2;
                }
            }
            case 9 -> enter(i.a);
            case 10 -> {
                if (a.kind != 1) {
                    state = 2;
                } else if (a.value != 0) {
                    enter(i.b);
                } else {
                    atInstruction++;
                }
            }
            case 11 -> {
                if (a.kind == 2) {
                    enter(a.value);
                } else {
                    state = 2;
                }
            }
            default -> state = 1;
        }
    }

    int state() {
        return state;
    }

    int register(int k, int what) {
        if (k < 1 || k > 5 || what < 0 || what > 1) {
            return -1;
        }
        return what == 0 ? registers[k].kind : registers[k].value;
    }
}
