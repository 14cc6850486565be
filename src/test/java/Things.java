/** Types and expressions of many kinds, the same ones each time, and what their numbers are. */
final class Things {
    final int pairType;
    final int functionType;
    final int returnType;
    final int codeType;
    /** A type of size 29. */
    final int largeType;
    /** How many types there are, and so the number that the next one gets. */
    final int types;

    final int one;
    final int free;
    final int pair;
    final int lambda;
    final int program;
    /** No part can be of one more, and it has 637 instructions. */
    final int highest;
    /** It has 81 blocks and 202 instructions. */
    final int manyBlocks;
    /** As large as it is high, but no program. */
    final int largePair;
    final int endless;
    /** How many expressions there are, and so the number that the next one gets. */
    final int expressions;

    Things(TypedMill mill) {
        pairType = Build.pairType(mill, 0, 0);
        functionType = Build.functionType(mill, 0, 0);
        returnType = Build.returnType(mill, 0);
        codeType = Build.codeType(mill, -1, -1, -1);
        int seven = Build.pairType(mill, pairType, pairType);
        int fifteen = Build.pairType(mill, seven, seven);
        int five = Build.pairType(mill, pairType, 0);
        largeType = Build.pairType(mill, fifteen, Build.pairType(mill, seven, five));
        types = largeType + 1;

        one = Build.constant(mill, 1);
        free = Build.variable(mill, 0);
        pair = Build.pair(mill, one, one);
        lambda = Build.lambda(mill, functionType, free);
        program = Build.call(mill, lambda, one);
        int high = one;
        for (int height = 2; height < 8; height++) {
            high = Build.plus(mill, high, high);
        }
        highest = Build.plus(mill, high, high);
        int chosen = one;
        for (int k = 0; k < 4; k++) {
            chosen = Build.choice(mill, chosen, chosen, chosen);
        }
        manyBlocks = chosen;
        largePair = Build.pair(mill, high, high);
        endless = Build.endless(mill);
        expressions = endless + 1;
    }
}
