/** Promise 3: size. */
final class P03SizeTest {
    public static void main(String[] args) {
        TypedMill mill = new TypedMill();
        int pair = Build.pairType(mill, 0, 0);
        int function = Build.functionType(mill, pair, 0);
        int waits = Build.returnType(mill, function);
        int code = Build.codeType(mill, waits, -1, pair);
        int nothing = Build.codeType(mill, -1, -1, -1);
        Expect.due("NUMBER", mill.size(0), 1);
        Expect.due("PAIR", mill.size(pair), 3);
        Expect.due("FUNCTION", mill.size(function), 5);
        Expect.due("RETURN", mill.size(waits), 6);
        Expect.due("CODE", mill.size(code), 10);
        Expect.due("CODE that asks nothing", mill.size(nothing), 1);
        Expect.due("a PAIR of one type twice", mill.size(Build.pairType(mill, code, code)), 21);
        int[] absent = {-1, 7, 30, Integer.MIN_VALUE, Integer.MAX_VALUE};
        for (int type : absent) {
            Expect.due("size(" + type + ")", mill.size(type), -1);
        }
        Expect.end();
    }
}
