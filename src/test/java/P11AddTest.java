/** Promise 11: add. */
final class P11AddTest {
    private static final int MIN = Integer.MIN_VALUE;
    private static final int MAX = Integer.MAX_VALUE;

    public static void main(String[] args) {
        everyOperation();
        wrongNumbers();
        wrongStates();
        threeHundred();
        Expect.end();
    }

    private static void everyOperation() {
        TypedMill mill = new TypedMill();
        int function = Build.functionType(mill, 0, 0);
        int waits = Build.returnType(mill, 0);
        mill.block(-1, -1, -1);
        Expect.due("SET, any number, c not looked at", mill.add(0, 1, MIN, 99), 1);
        Expect.due("ADD", mill.add(1, 1, 2, 5), 2);
        Expect.due("SUB", mill.add(2, 5, 4, 3), 3);
        Expect.due("MUL", mill.add(3, 2, 2, 2), 4);
        Expect.due("NEW", mill.add(4, 1, 1, 2), 5);
        Expect.due("LOAD of the first", mill.add(5, 1, 1, 0), 6);
        Expect.due("LOAD of the second", mill.add(5, 1, 1, 1), 7);
        Expect.due("NAME of a block that is not there", mill.add(6, 3, 39, MAX), 8);
        Expect.due("WRAP with FUNCTION", mill.add(7, 3, 4, function), 9);
        Expect.due("WRAP with RETURN", mill.add(7, 4, 3, waits), 10);
        Expect.due("OPEN", mill.add(8, 5, 1, 4), 11);
        Expect.due("JUMP, b and c not looked at", mill.add(9, 0, MIN, MAX), 12);
        Expect.due("BRANCH, c not looked at", mill.add(10, 5, 39, -9), 13);
        Expect.due("GO, b and c not looked at", mill.add(11, 5, -9, 99), 14);
        Expect.due("HALT, nothing looked at", mill.add(12, -9, 99, MIN), 15);
        Expect.due("all of them", Build.listing(mill), "0(0 0 0)@0: SET 1 " + MIN + " 0; ADD 1 2 5; SUB 5 4 3;"
                + " MUL 2 2 2; NEW 1 1 2; LOAD 1 1 0; LOAD 1 1 1; NAME 3 39 0; WRAP 3 4 3; WRAP 4 3 2; OPEN 5 1 4;"
                + " JUMP 0 0 0; BRANCH 5 39 0; GO 5 0 0; HALT 0 0 0;");
    }

    private static void wrongNumbers() {
        TypedMill mill = new TypedMill();
        int pair = Build.pairType(mill, 0, 0);
        int function = Build.functionType(mill, 0, 0);
        int code = Build.codeType(mill, -1, -1, -1);
        mill.block(-1, -1, -1);
        int[] operations = {-1, 13, MIN, MAX};
        for (int operation : operations) {
            Expect.due("operation " + operation, mill.add(operation, 1, 1, 1), -1);
        }
        int[] noRegisters = {0, 6, -1, MIN, MAX};
        for (int r : noRegisters) {
            int[] one = {0, 1, 2, 3, 4, 5, 6, 7, 8, 10, 11};
            for (int operation : one) {
                int c = operation == 7 ? function : 1;
                Expect.due("operation " + operation + " with a " + r, mill.add(operation, r, 1, c), -1);
            }
            int[] two = {1, 2, 3, 4, 5, 7, 8};
            for (int operation : two) {
                int c = operation == 7 ? function : 1;
                Expect.due("operation " + operation + " with b " + r, mill.add(operation, 1, r, c), -1);
            }
            int[] three = {1, 2, 3, 4, 8};
            for (int operation : three) {
                Expect.due("operation " + operation + " with c " + r, mill.add(operation, 1, 1, r), -1);
            }
        }
        int[] noParts = {-1, 2, MIN, MAX};
        for (int c : noParts) {
            Expect.due("LOAD with c " + c, mill.add(5, 1, 1, c), -1);
        }
        int[] noBlocks = {-1, 40, MIN, MAX};
        for (int b : noBlocks) {
            Expect.due("NAME of " + b, mill.add(6, 1, b, 0), -1);
            Expect.due("JUMP to " + b, mill.add(9, b, 0, 0), -1);
            Expect.due("BRANCH to " + b, mill.add(10, 1, b, 0), -1);
        }
        int[] noWrappings = {0, pair, code, -1, 4, MIN, MAX};
        for (int c : noWrappings) {
            Expect.due("WRAP with " + c, mill.add(7, 1, 1, c), -1);
        }
        Expect.due("no instruction has come", mill.look(0, 1), 0);
    }

    private static void wrongStates() {
        TypedMill mill = new TypedMill();
        Expect.due("without a block", mill.add(12, 0, 0, 0), -1);
        mill.block(-1, -1, -1);
        Build.code(mill, Build.i(0, 2, 4));
        mill.run(1);
        Expect.due("one that is refused", mill.add(0, 6, 0, 0), -1);
        Expect.due("the machine stays", Build.machine(mill), "0: 1/0 1/4 0/0 0/0 0/0");
        Expect.due("one that is not", mill.add(0, 5, 0, 0), 2);
        Expect.due("the machine begins", Build.machine(mill), "0: 1/0 0/0 0/0 0/0 0/0");
        Expect.due("both are done", mill.run(9), 2);
        mill.compile(Build.constant(mill, 1));
        Expect.due("to compiled code", mill.add(12, 0, 0, 0), -1);
        Expect.due("it stays as it was", mill.look(0, 1), 2);
    }

    private static void threeHundred() {
        TypedMill mill = new TypedMill();
        mill.block(-1, -1, -1);
        for (int k = 1; k <= 150; k++) {
            Expect.due("instruction " + k, mill.add(0, 1, k, 0), k);
        }
        mill.block(-1, -1, -1);
        for (int k = 151; k <= 300; k++) {
            Expect.due("instruction " + k, mill.add(0, 1, k, 0), k);
        }
        Expect.due("one more", mill.add(12, 0, 0, 0), -1);
        Expect.due("the first block has", mill.look(0, 1), 150);
        Expect.due("the second block has", mill.look(1, 1), 150);
        Expect.due("a block can still come", mill.block(-1, -1, -1), 2);
        Expect.due("an instruction can not", mill.add(12, 0, 0, 0), -1);
    }
}
