/** Short ways to make what many tests need. */
final class Build {
    static final int NUMBER = 0;
    private static final String[] NAMES = {
        "SET", "ADD", "SUB", "MUL", "NEW", "LOAD", "NAME", "WRAP", "OPEN", "JUMP", "BRANCH", "GO", "HALT"
    };

    private Build() {
    }

    static int pairType(TypedMill mill, int a, int b) {
        return mill.type(1, a, b, 0);
    }

    static int functionType(TypedMill mill, int a, int b) {
        return mill.type(2, a, b, 0);
    }

    static int returnType(TypedMill mill, int a) {
        return mill.type(3, a, 0, 0);
    }

    static int codeType(TypedMill mill, int a, int b, int c) {
        return mill.type(4, a, b, c);
    }

    static int constant(TypedMill mill, int a) {
        return mill.make(0, a, 0, 0, 0);
    }

    static int variable(TypedMill mill, int a) {
        return mill.make(1, a, 0, 0, 0);
    }

    static int plus(TypedMill mill, int x, int y) {
        return mill.make(2, 0, x, y, 0);
    }

    static int minus(TypedMill mill, int x, int y) {
        return mill.make(3, 0, x, y, 0);
    }

    static int times(TypedMill mill, int x, int y) {
        return mill.make(4, 0, x, y, 0);
    }

    static int choice(TypedMill mill, int x, int y, int z) {
        return mill.make(5, 0, x, y, z);
    }

    static int lambda(TypedMill mill, int type, int body) {
        return mill.make(6, type, body, 0, 0);
    }

    static int call(TypedMill mill, int x, int y) {
        return mill.make(7, 0, x, y, 0);
    }

    static int pair(TypedMill mill, int x, int y) {
        return mill.make(8, 0, x, y, 0);
    }

    static int first(TypedMill mill, int x) {
        return mill.make(9, 0, x, 0, 0);
    }

    static int second(TypedMill mill, int x) {
        return mill.make(10, 0, x, 0, 0);
    }

    /** A LAMBDA that calls itself with its argument for ever, called with 0. */
    static int endless(TypedMill mill) {
        int again = call(mill, variable(mill, 1), variable(mill, 0));
        return call(mill, lambda(mill, functionType(mill, NUMBER, NUMBER), again), constant(mill, 0));
    }

    /** Counts down to 0 by a function that calls itself, and gives what the body's last expression does. */
    static int countDown(TypedMill mill, int from, int last) {
        int n = variable(mill, 0);
        int again = call(mill, variable(mill, 1), minus(mill, n, constant(mill, 1)));
        int function = lambda(mill, functionType(mill, NUMBER, NUMBER), choice(mill, n, last, again));
        return call(mill, function, constant(mill, from));
    }

    /** A sum of so many ones; its code has 5 * leaves - 4 instructions. */
    static int sum(TypedMill mill, int leaves, int one) {
        if (leaves == 1) {
            return one;
        }
        int half = leaves / 2;
        int left = sum(mill, half, one);
        int right = leaves - half == half ? left : sum(mill, leaves - half, one);
        return plus(mill, left, right);
    }

    /** So many CHOICEs in one expression, in a tree that is as low as can be. */
    static int choices(TypedMill mill, int many, int leaf) {
        if (many == 0) {
            return leaf;
        }
        int third = (many - 1) / 3;
        int left = choices(mill, third, leaf);
        int right = choices(mill, many - 1 - 2 * third, leaf);
        return choice(mill, left, left, right);
    }

    /** Adds instructions, each with as many numbers as are given, the rest 0. */
    static void code(TypedMill mill, int[]... instructions) {
        for (int[] i : instructions) {
            int a = i.length > 1 ? i[1] : 0;
            int b = i.length > 2 ? i[2] : 0;
            int c = i.length > 3 ? i[3] : 0;
            if (mill.add(i[0], a, b, c) < 0) {
                throw new IllegalArgumentException("the test's own code was refused");
            }
        }
    }

    static int[] i(int... numbers) {
        return numbers;
    }

    /** All code as a text: each block's sizes and instructions, blocks in the order of their numbers. */
    static String listing(TypedMill mill) {
        StringBuilder text = new StringBuilder();
        for (int block = 0; mill.look(block, 0) >= 0; block++) {
            text.append(block == 0 ? "" : " | ").append(block).append('(');
            text.append(mill.look(block, 2)).append(' ').append(mill.look(block, 3)).append(' ');
            text.append(mill.look(block, 4)).append(")@").append(mill.look(block, 0)).append(':');
            for (int k = 0; k < mill.look(block, 1); k++) {
                text.append(' ').append(instruction(mill, mill.look(block, 0) + k)).append(';');
            }
        }
        return text.toString();
    }

    static String instruction(TypedMill mill, int k) {
        return NAMES[mill.instruction(k, 0)] + " " + mill.instruction(k, 1) + " "
                + mill.instruction(k, 2) + " " + mill.instruction(k, 3);
    }

    /** The machine as a text: what it is at and what its registers are. */
    static String machine(TypedMill mill) {
        StringBuilder text = new StringBuilder().append(mill.state()).append(':');
        for (int k = 1; k <= 5; k++) {
            text.append(' ').append(mill.register(k, 0)).append('/').append(mill.register(k, 1));
        }
        return text.toString();
    }
}
