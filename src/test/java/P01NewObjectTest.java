import java.util.NoSuchElementException;

/** Promise 1: a new object. */
final class P01NewObjectTest {
    public static void main(String[] args) {
        TypedMill mill = new TypedMill();
        Expect.due("size of NUMBER", mill.size(0), 1);
        Expect.due("size of a second type", mill.size(1), -1);
        Expect.yes("there is no expression", !mill.is(0, 0));
        Expect.refused("evaluate(0)", NoSuchElementException.class, () -> mill.evaluate(0));
        Expect.refused("compile(0)", NoSuchElementException.class, () -> mill.compile(0));
        Expect.due("steps()", mill.steps(), 0);
        Expect.due("look(0, 0)", mill.look(0, 0), -1);
        Expect.due("instruction(0, 0)", mill.instruction(0, 0), -1);
        Expect.due("check()", mill.check(), 0);
        Expect.due("the machine", Build.machine(mill), "0: 1/0 0/0 0/0 0/0 0/0");
        Expect.due("run(0)", mill.run(0), 0);
        Expect.due("state()", mill.state(), 0);
        Expect.due("run(1)", mill.run(1), 0);
        Expect.due("state()", mill.state(), 2);

        TypedMill other = new TypedMill();
        Expect.due("a type of one object", mill.type(1, 0, 0, 0), 1);
        Expect.due("an expression of one object", mill.make(0, 1, 0, 0, 0), 0);
        Expect.due("a block of one object", mill.block(-1, -1, -1), 0);
        Expect.due("another object's types", other.size(1), -1);
        Expect.yes("another object has no expression", !other.is(0, 0));
        Expect.due("another object's blocks", other.look(0, 0), -1);
        Expect.end();
    }
}
