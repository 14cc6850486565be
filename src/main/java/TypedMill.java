import java.util.Arrays;
import java.util.NoSuchElementException;

/**
 * A small typed language, its compiler, a checker that judges code by types alone, and the machine.
 *
 * <p>Every row is made once, in a constructor, and used again by each call: nothing that a call makes
 * is ever given back to the room in which all calls of a run live.
 */
public final class TypedMill {
    /** No type, no number, no block: what the document writes as -1. */
    private static final int NONE = -1;

    private final Types types;
    private final Expressions expressions;
    private final Typing typing;
    private final Evaluator evaluator;
    private final CodeWriter writer;
    private final Checker checker;
    private final Machine machine;
    private Code code;
    /** Compiling writes here first, so that a program that does not fit changes nothing. */
    private Code spare;

    public TypedMill() {
        types = new Types();
        expressions = new Expressions();
        typing = new Typing(types, expressions);
        evaluator = new Evaluator(expressions);
        writer = new CodeWriter(types, expressions);
        checker = new Checker(types);
        machine = new Machine();
        code = new Code(types);
        spare = new Code(types);
        machine.begin(code);
    }

    public int type(int kind, int a, int b, int c) {
        switch (kind) {
            case Types.PAIR:
            case Types.FUNCTION:
                return types.has(a) && types.has(b) ? types.keep(kind, a, b, NONE) : NONE;
            case Types.RETURN:
                return types.has(a) ? types.keep(kind, a, NONE, NONE) : NONE;
            case Types.CODE:
                return types.canAsk(a, b, c) ? types.keep(kind, a, b, c) : NONE;
            default:
                return NONE;
        }
    }

    public int size(int type) {
        return types.has(type) ? types.sizeOf(type) : NONE;
    }

    public int make(int kind, int a, int x, int y, int z) {
        if (kind == Expressions.LAMBDA && types.kindOf(a) != Types.FUNCTION) {
            return NONE;
        }
        return expressions.keep(kind, a, x, y, z);
    }

    public boolean is(int expression, int type) {
        return expressions.has(expression) && types.has(type) && typeOf(expression) == type;
    }

    public int evaluate(int expression)
            throws NoSuchElementException, IllegalArgumentException, IllegalStateException {
        if (!expressions.has(expression)) {
            throw new NoSuchElementException();
        }
        if (typeOf(expression) != Types.NUMBER) {
            throw new IllegalArgumentException();
        }
        int answer = evaluator.answerOf(expression);
        if (evaluator.over) {
            throw new IllegalStateException();
        }
        return answer;
    }

    public int steps() {
        return evaluator.taken;
    }

    public int compile(int expression)
            throws NoSuchElementException, IllegalArgumentException, UnsupportedOperationException {
        if (!expressions.has(expression)) {
            throw new NoSuchElementException();
        }
        if (typeOf(expression) != Types.NUMBER) {
            throw new IllegalArgumentException();
        }
        int kept = types.count;
        boolean fits = writer.translate(expression, spare);
        if (fits) {
            // Compiled code cannot be changed, so one verdict lasts and its types need not be kept.
            spare.verdict = checker.verdictOn(spare);
        }
        types.forgetFrom(kept);
        if (!fits) {
            throw new UnsupportedOperationException();
        }
        Code old = code;
        code = spare;
        spare = old;
        machine.begin(code);
        return code.count;
    }

    public void clear() {
        code.wipe();
        machine.begin(code);
    }

    public int block(int one, int two, int three) {
        if (code.compiled || code.blocks == Code.MOST_BLOCKS || !types.canAsk(one, two, three)) {
            return NONE;
        }
        int made = code.reserve();
        code.open(made, one, two, three);
        machine.begin(code);
        return made;
    }

    public int add(int operation, int a, int b, int c) {
        if (code.compiled || code.blocks == 0 || code.count == Code.MOST_INSTRUCTIONS) {
            return NONE;
        }
        if (!code.takes(operation, a, b, c)) {
            return NONE;
        }
        code.put(operation, a, b, c);
        machine.begin(code);
        return code.count;
    }

    public int check() {
        return code.compiled ? code.verdict : checker.verdictOn(code);
    }

    public int instruction(int k, int what) {
        return code.tellInstruction(k, what);
    }

    public int look(int block, int what) {
        return code.tellBlock(block, what);
    }

    public int run(int n) {
        return n < 0 || n > Machine.LONGEST_RUN ? NONE : machine.goOn(n);
    }

    public int state() {
        return machine.condition;
    }

    public int register(int k, int what) {
        return machine.tellRegister(k, what);
    }

    private int typeOf(int expression) {
        int kept = types.count;
        int answer = typing.typeWhereNothingIsBound(expression);
        types.forgetFrom(kept);
        return answer;
    }

    /**
     * All types, each only once, so that two types are the same just when their numbers are. The
     * user's come first; those that a call needs for itself stand behind them until the call ends.
     */
    private static final class Types {
        /** The kind, and also the number, of the only type that is always there. */
        static final int NUMBER = 0;
        static final int PAIR = 1;
        static final int FUNCTION = 2;
        static final int RETURN = 3;
        static final int CODE = 4;
        static final int HIDDEN = 5;

        private static final int MOST_KEPT = 30;
        private static final int GREATEST_SIZE = 30;
        /**
         * Beside the 30 that are kept a call makes at most 729 (typing: the most PAIRs in an expression
         * of height 8), 630 (checking 300 OPENs: 2 for each, and 30 RETURNs of the kept FUNCTIONs'
         * results) or 603 (compiling and checking it: 1 for each of 300 instructions in both, and a
         * block has but one OPEN).
         */
        private static final int ROOM = 800;
        private static final int BUCKETS = 128;

        private final int[] kind = new int[ROOM];
        private final int[] first = new int[ROOM];
        private final int[] second = new int[ROOM];
        private final int[] third = new int[ROOM];
        private final int[] sizes = new int[ROOM];
        /** For each bucket the newest type in it, and for each type the next older one of its bucket. */
        private final int[] newest = new int[BUCKETS];
        private final int[] older = new int[ROOM];
        int count;

        Types() {
            Arrays.fill(newest, NONE);
            find(NUMBER, NONE, NONE, NONE);
        }

        boolean has(int type) {
            return type >= 0 && type < count;
        }

        boolean canAsk(int one, int two, int three) {
            return (one == NONE || has(one)) && (two == NONE || has(two)) && (three == NONE || has(three));
        }

        int kindOf(int type) {
            return has(type) ? kind[type] : NONE;
        }

        int firstOf(int type) {
            return has(type) ? first[type] : NONE;
        }

        int secondOf(int type) {
            return has(type) ? second[type] : NONE;
        }

        int thirdOf(int type) {
            return has(type) ? third[type] : NONE;
        }

        /** No call of has() here: this ends the longest chain of calls, which may go eight deep. */
        int sizeOf(int type) {
            return type >= 0 && type < count ? sizes[type] : 0;
        }

        /** The own number as a part makes it differ from every other one. */
        int hidden() {
            return find(HIDDEN, count, NONE, NONE);
        }

        /** A type for the user, within the user's limits. */
        int keep(int k, int one, int two, int three) {
            boolean fits = 1 + sizeOf(one) + sizeOf(two) + sizeOf(three) <= GREATEST_SIZE;
            if (fits && count < MOST_KEPT) {
                return find(k, one, two, three);
            }
            return search(bucket(k, one, two, three), k, one, two, three);
        }

        /** The type with these parts, which is made now if it is not there yet. */
        int find(int k, int one, int two, int three) {
            int bucket = bucket(k, one, two, three);
            int there = search(bucket, k, one, two, three);
            if (there != NONE || count == ROOM) {
                return there;
            }
            // This may wrap for types that only a check makes: nobody is told the sizes of those.
            sizes[count] = 1 + sizeOf(one) + sizeOf(two) + sizeOf(three);
            append(bucket, k, one, two, three);
            return count - 1;
        }

        /** The newest go first, so that each is the newest of its bucket when it goes. */
        void forgetFrom(int mark) {
            while (count > mark) {
                count--;
                newest[bucket(kind[count], first[count], second[count], third[count])] = older[count];
            }
        }

        private int search(int bucket, int k, int one, int two, int three) {
            int at = newest[bucket];
            for (int seen = 0; seen < count && at != NONE; seen++) {
                if (kind[at] == k && first[at] == one && second[at] == two && third[at] == three) {
                    return at;
                }
                at = older[at];
            }
            return NONE;
        }

        private void append(int bucket, int k, int one, int two, int three) {
            kind[count] = k;
            first[count] = one;
            second[count] = two;
            third[count] = three;
            older[count] = newest[bucket];
            newest[bucket] = count;
            count++;
        }

        private static int bucket(int k, int one, int two, int three) {
            int mixed = ((k * 31 + one) * 37 + two) * 41 + three;
            return (mixed ^ (mixed >>> 7)) & (BUCKETS - 1);
        }
    }

    /** The expressions, in the order in which they were made: parts stand ahead of what they are in. */
    private static final class Expressions {
        static final int CONSTANT = 0;
        static final int VARIABLE = 1;
        static final int PLUS = 2;
        static final int MINUS = 3;
        static final int TIMES = 4;
        static final int CHOICE = 5;
        static final int LAMBDA = 6;
        static final int CALL = 7;
        static final int PAIR = 8;
        static final int FIRST = 9;
        static final int SECOND = 10;
        static final int GREATEST_HEIGHT = 8;

        private static final int MOST = 40;
        private static final int FARTHEST_VARIABLE = 20;
        private static final int[] PARTS = {0, 0, 2, 2, 2, 3, 1, 2, 2, 1, 1};

        final int[] kind = new int[MOST];
        final int[] a = new int[MOST];
        final int[] x = new int[MOST];
        final int[] y = new int[MOST];
        final int[] z = new int[MOST];
        private final int[] height = new int[MOST];
        private int count;

        boolean has(int expression) {
            return expression >= 0 && expression < count;
        }

        int keep(int k, int number, int one, int two, int three) {
            if (count == MOST || k < CONSTANT || k > SECOND) {
                return NONE;
            }
            if (k == VARIABLE && (number < 0 || number > FARTHEST_VARIABLE)) {
                return NONE;
            }
            int high = heightOver(PARTS[k], one, two, three);
            if (high == NONE || high > GREATEST_HEIGHT) {
                return NONE;
            }
            kind[count] = k;
            a[count] = number;
            x[count] = one;
            y[count] = two;
            z[count] = three;
            height[count] = high;
            count++;
            return count - 1;
        }

        /** The height over so many of the parts, NONE if one of them is not there. */
        private int heightOver(int parts, int one, int two, int three) {
            int greatest = 0;
            for (int k = 0; k < parts; k++) {
                int part = k == 0 ? one : k == 1 ? two : three;
                if (!has(part)) {
                    return NONE;
                }
                greatest = Math.max(greatest, height[part]);
            }
            return greatest + 1;
        }
    }

    /** Finds types of expressions; the greatest height keeps its recursion low. */
    private static final class Typing {
        private final Types types;
        private final Expressions expressions;
        /** The types of what is bound, the innermost last; a LAMBDA binds two. */
        private final int[] bound = new int[2 * Expressions.GREATEST_HEIGHT];
        private int bounds;

        Typing(Types types, Expressions expressions) {
            this.types = types;
            this.expressions = expressions;
        }

        int typeWhereNothingIsBound(int expression) {
            bounds = 0;
            return find(expression);
        }

        private int find(int e) {
            switch (expressions.kind[e]) {
                case Expressions.CONSTANT:
                    return Types.NUMBER;
                case Expressions.VARIABLE:
                    return expressions.a[e] < bounds ? bound[bounds - 1 - expressions.a[e]] : NONE;
                case Expressions.CHOICE:
                    return ofChoice(e);
                case Expressions.LAMBDA:
                    return ofLambda(e);
                case Expressions.CALL:
                    return ofCall(e);
                case Expressions.PAIR:
                    return ofPair(e);
                case Expressions.FIRST:
                case Expressions.SECOND:
                    return ofPart(e);
                default:
                    return ofReckoning(e);
            }
        }

        private int ofReckoning(int e) {
            boolean numbers = find(expressions.x[e]) == Types.NUMBER && find(expressions.y[e]) == Types.NUMBER;
            return numbers ? Types.NUMBER : NONE;
        }

        private int ofChoice(int e) {
            if (find(expressions.x[e]) != Types.NUMBER) {
                return NONE;
            }
            int one = find(expressions.y[e]);
            return one != NONE && find(expressions.z[e]) == one ? one : NONE;
        }

        private int ofLambda(int e) {
            if (bounds + 2 > bound.length) {
                return NONE;
            }
            int function = expressions.a[e];
            bound[bounds] = function;
            bound[bounds + 1] = types.firstOf(function);
            bounds += 2;
            int body = find(expressions.x[e]);
            bounds -= 2;
            return body == types.secondOf(function) ? function : NONE;
        }

        private int ofCall(int e) {
            int function = find(expressions.x[e]);
            if (types.kindOf(function) != Types.FUNCTION) {
                return NONE;
            }
            return find(expressions.y[e]) == types.firstOf(function) ? types.secondOf(function) : NONE;
        }

        private int ofPair(int e) {
            int one = find(expressions.x[e]);
            if (one == NONE) {
                return NONE;
            }
            int two = find(expressions.y[e]);
            return two == NONE ? NONE : types.find(Types.PAIR, one, two, NONE);
        }

        private int ofPart(int e) {
            int whole = find(expressions.x[e]);
            if (types.kindOf(whole) != Types.PAIR) {
                return NONE;
            }
            return expressions.kind[e] == Expressions.FIRST ? types.firstOf(whole) : types.secondOf(whole);
        }
    }

    /** Evaluates programs; the greatest depth keeps its recursion low. */
    private static final class Evaluator {
        private static final int MOST_STEPS = 500;
        private static final int GREATEST_DEPTH = 60;
        /** A CALL has three steps right below it, x, y and the body: ahead of the k-th body stand 3 k. */
        private static final int MOST_FRAMES = MOST_STEPS / 3;

        private static final int A_NUMBER = 0;
        private static final int A_PAIR = 1;
        private static final int A_FUNCTION = 2;

        private final Expressions expressions;
        /** A number; or a pair's two values; or a function's LAMBDA and the frame that it was met in. */
        private final int[] kind = new int[MOST_STEPS];
        private final int[] first = new int[MOST_STEPS];
        private final int[] second = new int[MOST_STEPS];
        private int values;
        /** What a CALL binds; the next frame outwards is the one that its function was met in. */
        private final int[] function = new int[MOST_FRAMES];
        private final int[] argument = new int[MOST_FRAMES];
        private int frames;
        int taken;
        boolean over;

        Evaluator(Expressions expressions) {
            this.expressions = expressions;
        }

        int answerOf(int program) {
            values = 0;
            frames = 0;
            taken = 0;
            over = false;
            int answer = find(program, NONE, 1);
            return over ? 0 : first[answer];
        }

        /** The place of the value; any place once it is over. */
        private int find(int e, int frame, int depth) {
            if (over || taken == MOST_STEPS || depth > GREATEST_DEPTH) {
                over = true;
                return 0;
            }
            taken++;
            switch (expressions.kind[e]) {
                case Expressions.CONSTANT:
                    return value(A_NUMBER, expressions.a[e], 0);
                case Expressions.VARIABLE:
                    return ofVariable(expressions.a[e], frame);
                case Expressions.CHOICE:
                    return ofChoice(e, frame, depth);
                case Expressions.LAMBDA:
                    return value(A_FUNCTION, e, frame);
                case Expressions.CALL:
                    return ofCall(e, frame, depth);
                case Expressions.FIRST:
                case Expressions.SECOND:
                    return ofPart(e, frame, depth);
                default:
                    return ofTwo(e, frame, depth);
            }
        }

        private int value(int k, int one, int two) {
            if (values == MOST_STEPS) {
                return 0;
            }
            kind[values] = k;
            first[values] = one;
            second[values] = two;
            values++;
            return values - 1;
        }

        private int ofVariable(int a, int frame) {
            int at = frame;
            for (int k = a; k > 1 && at != NONE; k -= 2) {
                at = second[function[at]];
            }
            if (at == NONE) {
                return 0;
            }
            return a % 2 == 0 ? argument[at] : function[at];
        }

        private int ofChoice(int e, int frame, int depth) {
            int asked = find(expressions.x[e], frame, depth + 1);
            if (over) {
                return 0;
            }
            int chosen = first[asked] == 0 ? expressions.y[e] : expressions.z[e];
            return find(chosen, frame, depth + 1);
        }

        private int ofCall(int e, int frame, int depth) {
            int called = find(expressions.x[e], frame, depth + 1);
            int given = find(expressions.y[e], frame, depth + 1);
            if (over || kind[called] != A_FUNCTION || frames == MOST_FRAMES) {
                return 0;
            }
            int made = frames;
            frames++;
            function[made] = called;
            argument[made] = given;
            return find(expressions.x[first[called]], made, depth + 1);
        }

        private int ofPart(int e, int frame, int depth) {
            int whole = find(expressions.x[e], frame, depth + 1);
            if (over || kind[whole] != A_PAIR) {
                return 0;
            }
            return expressions.kind[e] == Expressions.FIRST ? first[whole] : second[whole];
        }

        private int ofTwo(int e, int frame, int depth) {
            int one = find(expressions.x[e], frame, depth + 1);
            int two = find(expressions.y[e], frame, depth + 1);
            if (over) {
                return 0;
            }
            switch (expressions.kind[e]) {
                case Expressions.PLUS:
                    return value(A_NUMBER, first[one] + first[two], 0);
                case Expressions.MINUS:
                    return value(A_NUMBER, first[one] - first[two], 0);
                case Expressions.TIMES:
                    return value(A_NUMBER, first[one] * first[two], 0);
                default:
                    return value(A_PAIR, one, two);
            }
        }
    }

    /** Blocks and their instructions, written by hand or compiled. */
    private static final class Code {
        static final int SET = 0;
        static final int ADD = 1;
        static final int SUB = 2;
        static final int MUL = 3;
        static final int NEW = 4;
        static final int LOAD = 5;
        static final int NAME = 6;
        static final int WRAP = 7;
        static final int OPEN = 8;
        static final int JUMP = 9;
        static final int BRANCH = 10;
        static final int GO = 11;
        static final int HALT = 12;
        static final int MOST_BLOCKS = 40;
        static final int MOST_INSTRUCTIONS = 300;
        static final int REGISTERS = 5;
        /** A block can ask types of the registers 1, 2 and 3. */
        static final int ASKED = 3;

        /** What a number of an instruction can be. */
        private static final int NOTHING = 0;
        private static final int ANY = 1;
        private static final int REGISTER = 2;
        private static final int BLOCK = 3;
        private static final int PART = 4;
        private static final int WRAPPING = 5;
        /** For each operation in turn what its a, b and c are. */
        private static final int[] FORM = {
            REGISTER, ANY, NOTHING,
            REGISTER, REGISTER, REGISTER,
            REGISTER, REGISTER, REGISTER,
            REGISTER, REGISTER, REGISTER,
            REGISTER, REGISTER, REGISTER,
            REGISTER, REGISTER, PART,
            REGISTER, BLOCK, NOTHING,
            REGISTER, REGISTER, WRAPPING,
            REGISTER, REGISTER, REGISTER,
            BLOCK, NOTHING, NOTHING,
            REGISTER, BLOCK, NOTHING,
            REGISTER, NOTHING, NOTHING,
            NOTHING, NOTHING, NOTHING
        };

        private final Types types;
        final int[] operation = new int[MOST_INSTRUCTIONS];
        final int[] a = new int[MOST_INSTRUCTIONS];
        final int[] b = new int[MOST_INSTRUCTIONS];
        final int[] c = new int[MOST_INSTRUCTIONS];
        /** What is told of c. Sizes are noted at once: the types of compiled code do not outlast it. */
        private final int[] toldC = new int[MOST_INSTRUCTIONS];
        int count;
        private final int[] start = new int[MOST_BLOCKS];
        private final int[] length = new int[MOST_BLOCKS];
        private final int[] asks = new int[ASKED * MOST_BLOCKS];
        private final int[] askedSizes = new int[ASKED * MOST_BLOCKS];
        int blocks;
        /** The block that instructions are now written to. */
        private int current = NONE;
        boolean compiled;
        /** What the checker said of compiled code. */
        int verdict;
        /** More was to be written than there is room for. */
        boolean over;

        Code(Types types) {
            this.types = types;
        }

        void wipe() {
            count = 0;
            blocks = 0;
            current = NONE;
            compiled = false;
            over = false;
        }

        boolean hasBlock(int block) {
            return block >= 0 && block < blocks;
        }

        int startOf(int block) {
            return hasBlock(block) ? start[block] : 0;
        }

        int lengthOf(int block) {
            return hasBlock(block) ? length[block] : 0;
        }

        int askedType(int block, int register) {
            boolean there = hasBlock(block) && register >= 1 && register <= ASKED;
            return there ? asks[ASKED * block + register - 1] : NONE;
        }

        /** A number for a block that begins later. */
        int reserve() {
            if (blocks == MOST_BLOCKS) {
                over = true;
                return NONE;
            }
            length[blocks] = 0;
            blocks++;
            return blocks - 1;
        }

        void open(int block, int one, int two, int three) {
            if (!hasBlock(block)) {
                return;
            }
            current = block;
            start[block] = count;
            ask(ASKED * block, one);
            ask(ASKED * block + 1, two);
            ask(ASKED * block + 2, three);
        }

        private void ask(int place, int type) {
            asks[place] = type;
            askedSizes[place] = types.sizeOf(type);
        }

        /** Whether the operation is there and its numbers are such as it takes. */
        boolean takes(int op, int one, int two, int three) {
            if (op < SET || op > HALT) {
                return false;
            }
            int at = 3 * op;
            return fits(FORM[at], one) && fits(FORM[at + 1], two) && fits(FORM[at + 2], three);
        }

        private boolean fits(int form, int number) {
            switch (form) {
                case REGISTER:
                    return number >= 1 && number <= REGISTERS;
                case BLOCK:
                    return number >= 0 && number < MOST_BLOCKS;
                case PART:
                    return number == 0 || number == 1;
                case WRAPPING:
                    return types.kindOf(number) == Types.FUNCTION || types.kindOf(number) == Types.RETURN;
                default:
                    return true;
            }
        }

        void put(int op, int one, int two, int three) {
            if (count == MOST_INSTRUCTIONS || !hasBlock(current)) {
                over = true;
                return;
            }
            int at = 3 * op;
            operation[count] = op;
            a[count] = FORM[at] == NOTHING ? 0 : one;
            b[count] = FORM[at + 1] == NOTHING ? 0 : two;
            c[count] = FORM[at + 2] == NOTHING ? 0 : three;
            toldC[count] = op == WRAP ? types.sizeOf(three) : c[count];
            count++;
            length[current]++;
        }

        int tellInstruction(int k, int what) {
            if (k < 0 || k >= count) {
                return NONE;
            }
            switch (what) {
                case 0:
                    return operation[k];
                case 1:
                    return a[k];
                case 2:
                    return b[k];
                case 3:
                    return toldC[k];
                default:
                    return NONE;
            }
        }

        int tellBlock(int block, int what) {
            if (!hasBlock(block)) {
                return NONE;
            }
            switch (what) {
                case 0:
                    return start[block];
                case 1:
                    return length[block];
                case 2:
                case 3:
                case 4:
                    return askedSizes[ASKED * block + what - 2];
                default:
                    return NONE;
            }
        }
    }

    /**
     * Turns programs into code; the greatest height keeps its recursion low. Registers are written as
     * the document writes them: 1 the environment, 2 the value, 3 what waits, 4 and 5 for work.
     */
    private static final class CodeWriter {
        /** Each pair of an environment is made by an instruction; before them stands the empty one. */
        private static final int MOST_ENVIRONMENTS = Code.MOST_INSTRUCTIONS + 1;

        private final Types types;
        private final Expressions expressions;
        /** An environment's type, the one that it was made from, and whether a variable is its last. */
        private final int[] environmentType = new int[MOST_ENVIRONMENTS];
        private final int[] before = new int[MOST_ENVIRONMENTS];
        private final boolean[] bindsLast = new boolean[MOST_ENVIRONMENTS];
        private int environments;
        /** The LAMBDAs that were met, where, and the blocks that their bodies are to have. */
        private final int[] bodyLambda = new int[Code.MOST_BLOCKS];
        private final int[] bodyEnvironment = new int[Code.MOST_BLOCKS];
        private final int[] bodyBlock = new int[Code.MOST_BLOCKS];
        private int bodies;
        private Code code;

        CodeWriter(Types types, Expressions expressions) {
            this.types = types;
            this.expressions = expressions;
            environmentType[0] = Types.NUMBER;
            before[0] = NONE;
        }

        /** Whether all of the program's code fitted in. */
        boolean translate(int program, Code into) {
            code = into;
            code.wipe();
            bodies = 0;
            environments = 1;
            code.open(code.reserve(), Types.NUMBER, NONE, NONE);
            write(program, 0);
            code.put(Code.HALT, 0, 0, 0);
            for (int k = 0; k < bodies && !code.over; k++) {
                writeBody(bodyLambda[k], bodyEnvironment[k], bodyBlock[k]);
            }
            code.compiled = !code.over;
            return code.compiled;
        }

        /** Writes the code of an expression and tells its type (any once it does not fit). */
        private int write(int e, int environment) {
            if (code.over) {
                return Types.NUMBER;
            }
            switch (expressions.kind[e]) {
                case Expressions.CONSTANT:
                    code.put(Code.SET, 2, expressions.a[e], 0);
                    return Types.NUMBER;
                case Expressions.VARIABLE:
                    return writeVariable(expressions.a[e], environment);
                case Expressions.CHOICE:
                    return writeChoice(e, environment);
                case Expressions.LAMBDA:
                    return writeLambda(e, environment);
                case Expressions.CALL:
                    return writeCall(e, environment);
                case Expressions.FIRST:
                    return writePart(e, environment, 0);
                case Expressions.SECOND:
                    return writePart(e, environment, 1);
                default:
                    return writeTwo(e, environment);
            }
        }

        private int writeVariable(int a, int environment) {
            int at = environment;
            int left = a;
            int behind = 0;
            while (behind < environments && at > 0 && (left > 0 || !bindsLast[at])) {
                left -= bindsLast[at] ? 1 : 0;
                at = before[at];
                behind++;
            }
            if (behind == 0) {
                code.put(Code.LOAD, 2, 1, 1);
            } else {
                code.put(Code.LOAD, 4, 1, 0);
                for (int k = 1; k < behind; k++) {
                    code.put(Code.LOAD, 4, 4, 0);
                }
                code.put(Code.LOAD, 2, 4, 1);
            }
            return types.secondOf(environmentType[at]);
        }

        private int writeTwo(int e, int environment) {
            int left = write(expressions.x[e], environment);
            code.put(Code.NEW, 1, 1, 2);
            int right = write(expressions.y[e], extend(environment, left, false));
            code.put(Code.LOAD, 4, 1, 1);
            code.put(operationFor(expressions.kind[e]), 2, 4, 2);
            code.put(Code.LOAD, 1, 1, 0);
            boolean pairs = expressions.kind[e] == Expressions.PAIR;
            return pairs ? types.find(Types.PAIR, left, right, NONE) : Types.NUMBER;
        }

        private static int operationFor(int kind) {
            switch (kind) {
                case Expressions.PLUS:
                    return Code.ADD;
                case Expressions.MINUS:
                    return Code.SUB;
                case Expressions.TIMES:
                    return Code.MUL;
                default:
                    return Code.NEW;
            }
        }

        private int writePart(int e, int environment, int which) {
            int whole = write(expressions.x[e], environment);
            code.put(Code.LOAD, 2, 2, which);
            return which == 0 ? types.firstOf(whole) : types.secondOf(whole);
        }

        private int writeChoice(int e, int environment) {
            int here = environmentType[environment];
            write(expressions.x[e], environment);
            int other = code.reserve();
            int behind = code.reserve();
            code.put(Code.BRANCH, 2, other, 0);
            int type = write(expressions.y[e], environment);
            code.put(Code.JUMP, behind, 0, 0);
            code.open(other, here, NONE, NONE);
            write(expressions.z[e], environment);
            code.put(Code.JUMP, behind, 0, 0);
            code.open(behind, here, type, NONE);
            return type;
        }

        private int writeLambda(int e, int environment) {
            int body = code.reserve();
            if (!code.over) {
                bodyLambda[bodies] = e;
                bodyEnvironment[bodies] = environment;
                bodyBlock[bodies] = body;
                bodies++;
            }
            code.put(Code.NAME, 4, body, 0);
            code.put(Code.NEW, 4, 4, 1);
            code.put(Code.WRAP, 2, 4, expressions.a[e]);
            return expressions.a[e];
        }

        private void writeBody(int lambda, int environment, int block) {
            int function = expressions.a[lambda];
            int given = types.firstOf(function);
            int waiting = types.find(Types.RETURN, types.secondOf(function), NONE, NONE);
            code.open(block, environmentType[environment], given, waiting);
            code.put(Code.NAME, 4, block, 0);
            code.put(Code.NEW, 4, 4, 1);
            code.put(Code.WRAP, 4, 4, function);
            code.put(Code.NEW, 1, 1, 4);
            int itself = extend(environment, function, true);
            code.put(Code.NEW, 1, 1, 3);
            int waits = extend(itself, waiting, false);
            code.put(Code.NEW, 1, 1, 2);
            write(expressions.x[lambda], extend(waits, given, true));
            code.put(Code.LOAD, 4, 1, 0);
            code.put(Code.LOAD, 4, 4, 1);
            code.put(Code.OPEN, 5, 1, 4);
            code.put(Code.GO, 5, 0, 0);
        }

        private int writeCall(int e, int environment) {
            int function = write(expressions.x[e], environment);
            int result = types.secondOf(function);
            code.put(Code.NEW, 1, 1, 2);
            write(expressions.y[e], extend(environment, function, false));
            int behind = code.reserve();
            code.put(Code.NAME, 4, behind, 0);
            code.put(Code.LOAD, 5, 1, 0);
            code.put(Code.NEW, 4, 4, 5);
            code.put(Code.WRAP, 3, 4, types.find(Types.RETURN, result, NONE, NONE));
            code.put(Code.LOAD, 4, 1, 1);
            code.put(Code.OPEN, 5, 1, 4);
            code.put(Code.GO, 5, 0, 0);
            code.open(behind, environmentType[environment], result, NONE);
            return result;
        }

        /** The environment with one more pair, of a value of this type. */
        private int extend(int environment, int type, boolean binds) {
            if (code.over || environments == MOST_ENVIRONMENTS) {
                return environment;
            }
            environmentType[environments] = types.find(Types.PAIR, environmentType[environment], type, NONE);
            before[environments] = environment;
            bindsLast[environments] = binds;
            environments++;
            return environments - 1;
        }
    }

    /** Tells from types alone whether code can get stuck. */
    private static final class Checker {
        private static final int RIGHT = -1;
        private static final int BLOCK_WEIGHT = 1000;

        private final Types types;
        /** The types that the registers 1 to 5 have; place 0 is not used. */
        private final int[] held = new int[Code.REGISTERS + 1];
        private Code code;

        Checker(Types types) {
            this.types = types;
        }

        int verdictOn(Code checked) {
            code = checked;
            if (!beginsRight()) {
                return 0;
            }
            for (int block = 0; block < code.blocks; block++) {
                int before = types.count;
                int wrong = firstWrong(block);
                types.forgetFrom(before);
                if (wrong != RIGHT) {
                    return BLOCK_WEIGHT * block + wrong;
                }
            }
            return RIGHT;
        }

        private boolean beginsRight() {
            int one = code.askedType(0, 1);
            return code.hasBlock(0) && (one == NONE || one == Types.NUMBER)
                    && code.askedType(0, 2) == NONE && code.askedType(0, 3) == NONE;
        }

        private int firstWrong(int block) {
            Arrays.fill(held, NONE);
            for (int k = 1; k <= Code.ASKED; k++) {
                held[k] = code.askedType(block, k);
            }
            int start = code.startOf(block);
            int length = code.lengthOf(block);
            boolean ended = false;
            for (int k = 0; k < length; k++) {
                if (ended || !isRight(start + k)) {
                    return k;
                }
                ended = ends(code.operation[start + k]);
            }
            return ended ? RIGHT : length;
        }

        private static boolean ends(int operation) {
            return operation == Code.JUMP || operation == Code.GO || operation == Code.HALT;
        }

        /** Whether the instruction is right here; if so, what it sets has its type then. */
        private boolean isRight(int at) {
            int a = code.a[at];
            int b = code.b[at];
            int c = code.c[at];
            switch (code.operation[at]) {
                case Code.SET:
                    return gets(a, Types.NUMBER);
                case Code.ADD:
                case Code.SUB:
                case Code.MUL:
                    return held[b] == Types.NUMBER && held[c] == Types.NUMBER && gets(a, Types.NUMBER);
                case Code.NEW:
                    return held[b] != NONE && held[c] != NONE
                            && gets(a, types.find(Types.PAIR, held[b], held[c], NONE));
                case Code.LOAD:
                    return types.kindOf(held[b]) == Types.PAIR
                            && gets(a, c == 0 ? types.firstOf(held[b]) : types.secondOf(held[b]));
                case Code.NAME:
                    return code.hasBlock(b) && gets(a, typeOfBlock(b));
                case Code.WRAP:
                    return canWrap(held[b], c) && gets(a, c);
                case Code.OPEN:
                    return opens(a, b, held[c]);
                case Code.JUMP:
                    return canEnter(a);
                case Code.BRANCH:
                    return held[a] == Types.NUMBER && canEnter(b);
                case Code.GO:
                    return types.kindOf(held[a]) == Types.CODE && canGo(held[a]);
                default:
                    return held[2] == Types.NUMBER;
            }
        }

        private boolean gets(int register, int type) {
            held[register] = type;
            return true;
        }

        private int typeOfBlock(int block) {
            return types.find(Types.CODE, code.askedType(block, 1), code.askedType(block, 2),
                    code.askedType(block, 3));
        }

        /** What a wrapped pair's block asks of register 2: the argument, or the value waited for. */
        private int taken(int wrapping) {
            return types.firstOf(wrapping);
        }

        private boolean canWrap(int pair, int wrapping) {
            if (types.kindOf(pair) != Types.PAIR) {
                return false;
            }
            int entry = types.firstOf(pair);
            if (types.kindOf(entry) != Types.CODE || types.firstOf(entry) != types.secondOf(pair)) {
                return false;
            }
            return types.secondOf(entry) == taken(wrapping) && waitsFor(types.thirdOf(entry), wrapping);
        }

        /** Whether this is what a wrapped pair's block asks of register 3. */
        private boolean waitsFor(int third, int wrapping) {
            if (types.kindOf(wrapping) == Types.RETURN) {
                return third == NONE;
            }
            return types.kindOf(third) == Types.RETURN && types.firstOf(third) == types.secondOf(wrapping);
        }

        private boolean opens(int a, int b, int wrapped) {
            boolean function = types.kindOf(wrapped) == Types.FUNCTION;
            if (!function && types.kindOf(wrapped) != Types.RETURN) {
                return false;
            }
            int hidden = types.hidden();
            int third = function ? types.find(Types.RETURN, types.secondOf(wrapped), NONE, NONE) : NONE;
            return gets(a, types.find(Types.CODE, hidden, taken(wrapped), third)) && gets(b, hidden);
        }

        private boolean canEnter(int block) {
            return code.hasBlock(block) && canGive(1, code.askedType(block, 1))
                    && canGive(2, code.askedType(block, 2)) && canGive(3, code.askedType(block, 3));
        }

        private boolean canGo(int entry) {
            return canGive(1, types.firstOf(entry)) && canGive(2, types.secondOf(entry))
                    && canGive(3, types.thirdOf(entry));
        }

        private boolean canGive(int register, int asked) {
            return asked == NONE || held[register] == asked;
        }
    }

    /** Five registers, a heap of pairs, and the place in the code that comes next. */
    private static final class Machine {
        static final int LONGEST_RUN = 1000;

        private static final int GOES_ON = 0;
        private static final int HALTED = 1;
        private static final int STUCK = 2;
        private static final int FULL = 3;

        private static final int EMPTY = 0;
        private static final int A_NUMBER = 1;
        private static final int A_BLOCK = 2;
        private static final int A_PAIR = 3;
        private static final int A_WRAPPED = 4;

        private static final int MOST_PAIRS = 400;

        /** Of the registers 1 to 5; place 0 is not used. */
        private final int[] kind = new int[Code.REGISTERS + 1];
        private final int[] value = new int[Code.REGISTERS + 1];
        private final int[] firstKind = new int[MOST_PAIRS];
        private final int[] firstValue = new int[MOST_PAIRS];
        private final int[] secondKind = new int[MOST_PAIRS];
        private final int[] secondValue = new int[MOST_PAIRS];
        private int pairs;
        private Code code;
        private int block;
        private int next;
        int condition;

        void begin(Code begun) {
            code = begun;
            block = 0;
            next = 0;
            pairs = 0;
            condition = GOES_ON;
            Arrays.fill(kind, EMPTY);
            Arrays.fill(value, 0);
            kind[1] = A_NUMBER;
        }

        int goOn(int most) {
            int done = 0;
            for (int k = 0; k < most && condition == GOES_ON; k++) {
                done += perform() ? 1 : 0;
            }
            return done;
        }

        int tellRegister(int k, int what) {
            if (k < 1 || k > Code.REGISTERS || what < 0 || what > 1) {
                return NONE;
            }
            return what == 0 ? kind[k] : value[k];
        }

        /** Whether the next instruction was done; if not, nothing of it was. */
        private boolean perform() {
            if (next >= code.lengthOf(block)) {
                return stop(STUCK);
            }
            int at = code.startOf(block) + next;
            int a = code.a[at];
            int b = code.b[at];
            int c = code.c[at];
            switch (code.operation[at]) {
                case Code.SET:
                    return become(a, A_NUMBER, b);
                case Code.ADD:
                case Code.SUB:
                case Code.MUL:
                    return reckon(code.operation[at], a, b, c);
                case Code.NEW:
                    return pair(a, b, c);
                case Code.LOAD:
                    return load(a, b, c);
                case Code.NAME:
                    return become(a, A_BLOCK, b);
                case Code.WRAP:
                    return kind[b] == A_PAIR ? become(a, A_WRAPPED, value[b]) : stop(STUCK);
                case Code.OPEN:
                    return unwrap(a, b, c);
                case Code.JUMP:
                    return enter(a);
                case Code.BRANCH:
                    return branch(a, b);
                case Code.GO:
                    return kind[a] == A_BLOCK ? enter(value[a]) : stop(STUCK);
                default:
                    condition = HALTED;
                    return true;
            }
        }

        private boolean stop(int why) {
            condition = why;
            return false;
        }

        private boolean become(int register, int k, int v) {
            kind[register] = k;
            value[register] = v;
            next++;
            return true;
        }

        private boolean reckon(int operation, int a, int b, int c) {
            if (kind[b] != A_NUMBER || kind[c] != A_NUMBER) {
                return stop(STUCK);
            }
            switch (operation) {
                case Code.ADD:
                    return become(a, A_NUMBER, value[b] + value[c]);
                case Code.SUB:
                    return become(a, A_NUMBER, value[b] - value[c]);
                default:
                    return become(a, A_NUMBER, value[b] * value[c]);
            }
        }

        private boolean pair(int a, int b, int c) {
            if (kind[b] == EMPTY || kind[c] == EMPTY) {
                return stop(STUCK);
            }
            if (pairs == MOST_PAIRS) {
                return stop(FULL);
            }
            firstKind[pairs] = kind[b];
            firstValue[pairs] = value[b];
            secondKind[pairs] = kind[c];
            secondValue[pairs] = value[c];
            pairs++;
            return become(a, A_PAIR, pairs - 1);
        }

        private boolean load(int a, int b, int c) {
            if (kind[b] != A_PAIR) {
                return stop(STUCK);
            }
            int from = value[b];
            return c == 0 ? become(a, firstKind[from], firstValue[from])
                    : become(a, secondKind[from], secondValue[from]);
        }

        private boolean unwrap(int a, int b, int c) {
            if (kind[c] != A_WRAPPED || firstKind[value[c]] != A_BLOCK) {
                return stop(STUCK);
            }
            int from = value[c];
            kind[a] = A_BLOCK;
            value[a] = firstValue[from];
            return become(b, secondKind[from], secondValue[from]);
        }

        private boolean enter(int entered) {
            if (!code.hasBlock(entered)) {
                return stop(STUCK);
            }
            block = entered;
            next = 0;
            return true;
        }

        private boolean branch(int a, int to) {
            if (kind[a] != A_NUMBER) {
                return stop(STUCK);
            }
            if (value[a] != 0) {
                return enter(to);
            }
            next++;
            return true;
        }
    }
}
