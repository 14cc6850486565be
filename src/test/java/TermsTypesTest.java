import java.util.function.Consumer;

/** The boundary cases of types: their sizes and how many there can be (promises 1, 2 and 3). */
final class TermsTypesTest {
    public static void main(String[] args) {
        sizesCountItself();
        greatestSizeOfEachKind();
        noneHasNoSize();
        oneShortOfThirty();
        atThirty();
        beyondThirty();
        sameTypesAtTheGreatestSize();
        Expect.end();
    }

    private static void made(TypedMill mill, String what, int type, int number, int size) {
        Expect.due("number of " + what, type, number);
        Expect.due("size of " + what, mill.size(type), size);
    }

    private static void sizesCountItself() {
        TypedMill mill = new TypedMill();
        made(mill, "NUMBER", 0, 0, 1);
        made(mill, "CODE that asks nothing", mill.type(4, -1, -1, -1), 1, 1);
        made(mill, "RETURN of NUMBER", mill.type(3, 0, 0, 0), 2, 2);
        made(mill, "CODE that asks one", mill.type(4, -1, 0, -1), 3, 2);
        made(mill, "PAIR of NUMBERs", mill.type(1, 0, 0, 0), 4, 3);
        made(mill, "FUNCTION of NUMBERs", mill.type(2, 0, 0, 0), 5, 3);
        made(mill, "CODE that asks three", mill.type(4, 0, 0, 0), 6, 4);
        made(mill, "a PAIR of one type twice", mill.type(1, 6, 6, 0), 7, 9);
    }

    /** Types of the sizes 13, 14 and 15 on the way to 29, 30 and 31. */
    private static int[] partsOf(TypedMill mill) {
        int three = mill.type(1, 0, 0, 0);
        int five = mill.type(1, three, 0, 0);
        int seven = mill.type(1, three, three, 0);
        int thirteen = mill.type(1, seven, five, 0);
        int fourteen = mill.type(3, thirteen, 0, 0);
        int fifteen = mill.type(1, seven, seven, 0);
        return new int[] {thirteen, fourteen, fifteen};
    }

    private static void greatestSizeOfEachKind() {
        TypedMill mill = new TypedMill();
        int[] parts = partsOf(mill);
        int thirteen = parts[0];
        int fourteen = parts[1];
        int fifteen = parts[2];
        made(mill, "a PAIR, one short", mill.type(1, fifteen, thirteen, 0), 7, 29);
        made(mill, "a PAIR, at the limit", mill.type(1, fifteen, fourteen, 0), 8, 30);
        Expect.due("a PAIR, one beyond", mill.type(1, fifteen, fifteen, 0), -1);
        made(mill, "a FUNCTION, one short", mill.type(2, thirteen, fifteen, 0), 9, 29);
        made(mill, "a FUNCTION, at the limit", mill.type(2, fourteen, fifteen, 0), 10, 30);
        Expect.due("a FUNCTION, one beyond", mill.type(2, fifteen, fifteen, 0), -1);
        made(mill, "a FUNCTION of size 28", mill.type(2, thirteen, fourteen, 0), 11, 28);
        made(mill, "a RETURN, one short", mill.type(3, 11, 0, 0), 12, 29);
        made(mill, "a RETURN, at the limit", mill.type(3, 12, 0, 0), 13, 30);
        Expect.due("a RETURN, one beyond", mill.type(3, 13, 0, 0), -1);
        made(mill, "a CODE, one short", mill.type(4, 0, thirteen, fourteen), 14, 29);
        made(mill, "a CODE, at the limit", mill.type(4, 0, fourteen, fourteen), 15, 30);
        Expect.due("a CODE, one beyond", mill.type(4, 0, fourteen, fifteen), -1);
        Expect.due("no other type has come", mill.size(16), -1);
        Expect.due("the next number", mill.type(4, -1, -1, -1), 16);
    }

    /** What is not asked adds nothing: each place by itself goes up to the limit. */
    private static void noneHasNoSize() {
        TypedMill mill = new TypedMill();
        int[] parts = partsOf(mill);
        int short29 = mill.type(1, parts[2], parts[0], 0);
        int most = mill.type(1, parts[2], parts[1], 0);
        made(mill, "CODE with 29 in 1", mill.type(4, short29, -1, -1), 9, 30);
        made(mill, "CODE with 29 in 2", mill.type(4, -1, short29, -1), 10, 30);
        made(mill, "CODE with 29 in 3", mill.type(4, -1, -1, short29), 11, 30);
        Expect.due("CODE with 30 in 1", mill.type(4, most, -1, -1), -1);
        Expect.due("CODE with 30 in 2", mill.type(4, -1, most, -1), -1);
        Expect.due("CODE with 30 in 3", mill.type(4, -1, -1, most), -1);
        Expect.due("CODE with 29 and 1", mill.type(4, short29, 0, -1), -1);
        Expect.due("CODE with 30 thrice", mill.type(4, most, most, most), -1);
        Expect.due("PAIR of 30 twice", mill.type(1, most, most, 0), -1);
        Expect.due("no other type has come", mill.size(12), -1);
    }

    /** With NUMBER there are 29 then, all of different kinds and sizes. */
    private static void twentyNine(TypedMill mill) {
        for (int k = 1; k <= 10; k++) {
            Expect.due("PAIR " + k, mill.type(1, 0, k - 1, 0), k);
        }
        for (int k = 0; k < 10; k++) {
            Expect.due("RETURN " + k, mill.type(3, k, 0, 0), 11 + k);
        }
        for (int k = 0; k < 8; k++) {
            Expect.due("FUNCTION " + k, mill.type(2, k, 0, 0), 21 + k);
        }
    }

    private static void thirty(TypedMill mill) {
        twentyNine(mill);
        Expect.due("the thirtieth", mill.type(4, 0, -1, 20), 29);
    }

    private static void oneShortOfThirty() {
        TypedMill mill = new TypedMill();
        twentyNine(mill);
        Expect.due("there is no thirtieth yet", mill.size(29), -1);
        Expect.due("one that is there", mill.type(3, 9, 0, 0), 20);
        Expect.due("it has not come again", mill.size(29), -1);
        Expect.due("the thirtieth", mill.type(1, 1, 1, 0), 29);
        Expect.due("its size", mill.size(29), 7);
    }

    private static void atThirty() {
        TypedMill mill = new TypedMill();
        thirty(mill);
        for (int k = 1; k <= 10; k++) {
            Expect.due("PAIR " + k + " again", mill.type(1, 0, k - 1, k), k);
        }
        for (int k = 0; k < 10; k++) {
            Expect.due("RETURN " + k + " again", mill.type(3, k, 99, -9), 11 + k);
        }
        for (int k = 0; k < 8; k++) {
            Expect.due("FUNCTION " + k + " again", mill.type(2, k, 0, 99), 21 + k);
        }
        Expect.due("the thirtieth again", mill.type(4, 0, -1, 20), 29);
        Expect.due("the thirtieth is a part of nothing new", mill.type(3, 29, 0, 0), -1);
        Expect.due("the thirtieth can be asked", mill.block(29, 29, 29), 0);
        Expect.due("its size", mill.look(0, 2), mill.size(29));
    }

    private static void beyondThirty() {
        Tells tells = new Tells(TermsTypesTest::thirty);
        stays(tells, "a PAIR", mill -> Expect.due("a PAIR beyond", mill.type(1, 1, 1, 0), -1));
        stays(tells, "a FUNCTION", mill -> Expect.due("a FUNCTION beyond", mill.type(2, 0, 1, 0), -1));
        stays(tells, "a RETURN", mill -> Expect.due("a RETURN beyond", mill.type(3, 10, 0, 0), -1));
        stays(tells, "a CODE", mill -> Expect.due("a CODE beyond", mill.type(4, -1, -1, -1), -1));
        stays(tells, "one that is there", mill -> Expect.due("a PAIR again", mill.type(1, 0, 0, 0), 1));
        stays(tells, "block() that asks type 30", mill -> Expect.due("block()", mill.block(30, -1, -1), -1));
        stays(tells, "LAMBDA with type 30", mill -> Expect.due("LAMBDA", mill.make(6, 30, 0, 0, 0), -1));
    }

    private static void stays(Tells tells, String what, Consumer<TypedMill> calls) {
        tells.stay(what + " at thirty types", calls);
    }

    private static void sameTypesAtTheGreatestSize() {
        TypedMill mill = new TypedMill();
        int[] parts = partsOf(mill);
        int most = mill.type(1, parts[2], parts[1], 0);
        Expect.due("the same one of size 30", mill.type(1, parts[2], parts[1], 5), most);
        Expect.due("no other type has come", mill.size(most + 1), -1);
    }
}
