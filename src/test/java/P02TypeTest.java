/** Promise 2: type. */
final class P02TypeTest {
    public static void main(String[] args) {
        kindsAndSameOnes();
        wrongInputs();
        greatestSize();
        thirtyTypes();
        typesOfCallsAreNotKept();
        Expect.end();
    }

    private static void kindsAndSameOnes() {
        TypedMill mill = new TypedMill();
        Expect.due("PAIR", mill.type(1, 0, 0, 0), 1);
        Expect.due("FUNCTION", mill.type(2, 0, 0, 0), 2);
        Expect.due("RETURN", mill.type(3, 0, 0, 0), 3);
        Expect.due("CODE", mill.type(4, 0, 0, 0), 4);
        Expect.due("CODE with none in 1", mill.type(4, -1, 0, 0), 5);
        Expect.due("CODE with none in 2", mill.type(4, 0, -1, 0), 6);
        Expect.due("CODE with none in 3", mill.type(4, 0, 0, -1), 7);
        Expect.due("CODE with nothing", mill.type(4, -1, -1, -1), 8);
        Expect.due("PAIR of 1, 0", mill.type(1, 1, 0, 0), 9);
        Expect.due("PAIR of 0, 1", mill.type(1, 0, 1, 0), 10);
        Expect.due("PAIR again, c not looked at", mill.type(1, 0, 0, 99), 1);
        Expect.due("FUNCTION again, c not looked at", mill.type(2, 0, 0, -7), 2);
        Expect.due("RETURN again, b and c not looked at", mill.type(3, 0, 99, -7), 3);
        Expect.due("CODE again", mill.type(4, 0, 0, 0), 4);
        Expect.due("CODE with nothing again", mill.type(4, -1, -1, -1), 8);
    }

    private static void wrongInputs() {
        TypedMill mill = new TypedMill();
        int[] kinds = {0, 5, -1, Integer.MIN_VALUE, Integer.MAX_VALUE};
        for (int kind : kinds) {
            Expect.due("kind " + kind, mill.type(kind, 0, 0, 0), -1);
        }
        int[] absent = {1, -2, 30, Integer.MIN_VALUE, Integer.MAX_VALUE};
        for (int type : absent) {
            for (int kind = 1; kind <= 4; kind++) {
                Expect.due("kind " + kind + " with a " + type, mill.type(kind, type, 0, 0), -1);
            }
            Expect.due("PAIR with b " + type, mill.type(1, 0, type, 0), -1);
            Expect.due("FUNCTION with b " + type, mill.type(2, 0, type, 0), -1);
            Expect.due("CODE with b " + type, mill.type(4, 0, type, 0), -1);
            Expect.due("CODE with c " + type, mill.type(4, 0, 0, type), -1);
        }
        Expect.due("PAIR with none in a", mill.type(1, -1, 0, 0), -1);
        Expect.due("PAIR with none in b", mill.type(1, 0, -1, 0), -1);
        Expect.due("FUNCTION with none in a", mill.type(2, -1, 0, 0), -1);
        Expect.due("FUNCTION with none in b", mill.type(2, 0, -1, 0), -1);
        Expect.due("RETURN with none", mill.type(3, -1, 0, 0), -1);
        Expect.due("nothing was made", mill.size(1), -1);
    }

    private static void greatestSize() {
        TypedMill mill = new TypedMill();
        int large = 0;
        for (int k = 0; k < 14; k++) {
            large = mill.type(1, large, 0, 0);
        }
        Expect.due("size after 14 PAIRs", mill.size(large), 29);
        Expect.due("a PAIR of size 31", mill.type(1, large, 0, 0), -1);
        Expect.due("a FUNCTION of size 31", mill.type(2, 0, large, 0), -1);
        Expect.due("a CODE of size 31", mill.type(4, large, -1, 0), -1);
        Expect.due("a CODE of size 88", mill.type(4, large, large, large), -1);
        int code = mill.type(4, -1, large, -1);
        Expect.due("a CODE of size 30", code, 15);
        Expect.due("its size", mill.size(code), 30);
        Expect.due("a RETURN of size 30", mill.type(3, large, 0, 0), 16);
        Expect.due("a RETURN of size 31", mill.type(3, code, 0, 0), -1);
        Expect.due("a PAIR of size 29 + 1 in other order", mill.type(1, 0, large - 1, 0), 17);
    }

    private static void thirtyTypes() {
        TypedMill mill = new TypedMill();
        for (int k = 1; k <= 10; k++) {
            Expect.due("PAIR " + k, mill.type(1, 0, k - 1, 0), k);
        }
        for (int k = 0; k < 10; k++) {
            Expect.due("RETURN " + k, mill.type(3, k, 0, 0), 11 + k);
        }
        for (int k = 0; k < 9; k++) {
            Expect.due("FUNCTION " + k, mill.type(2, k, 0, 0), 21 + k);
        }
        Expect.due("one more", mill.type(4, 0, 0, 0), -1);
        Expect.due("size of one more", mill.size(30), -1);
        Expect.due("a PAIR that is there", mill.type(1, 0, 4, 0), 5);
        Expect.due("a RETURN that is there", mill.type(3, 3, 0, 0), 14);
        Expect.due("the last one again", mill.type(2, 8, 0, 0), 29);
    }

    private static void typesOfCallsAreNotKept() {
        TypedMill mill = new TypedMill();
        int one = Build.constant(mill, 1);
        int pair = Build.pair(mill, one, one);
        int program = Build.first(mill, Build.pair(mill, one, pair));
        Expect.yes("a PAIR is no NUMBER", !mill.is(pair, 0));
        Expect.due("evaluate", mill.evaluate(program), 1);
        mill.compile(program);
        mill.check();
        Expect.due("no type has come", mill.size(1), -1);
        Expect.due("PAIR of a PAIR's kind", mill.type(1, 0, 0, 0), 1);
        Expect.yes("now it has its type", mill.is(pair, 1));
        Expect.due("check() of code compiled before", mill.check(), -1);
    }
}
