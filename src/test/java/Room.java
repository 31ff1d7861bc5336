import java.util.ArrayList;
import java.util.List;
import java.util.function.ToIntFunction;

/**
 * A FunctionRoom beside a model of it: each call is made on both and has to be answered alike. It never asks more of
 * an object than the 512 calls that the document promises: to read whole registers it makes the same calls again on
 * new objects.
 */
final class Room {
    static final int REGISTERS = 32;
    static final int CALLS = 512;

    private final int asked;
    private final FunctionRoom room;
    private final Model model;
    private final List<ToIntFunction<FunctionRoom>> calls = new ArrayList<>();
    private String lastCall = "no call";

    Room(int asked) {
        this.asked = asked;
        room = new FunctionRoom(asked);
        model = new Model(asked);
    }

    int variables() {
        return model.variables();
    }

    int assignments() {
        return 1 << model.variables();
    }

    int callsLeft() {
        return CALLS - calls.size();
    }

    /** The last call as it stands in Java, with V. */
    String lastCall() {
        return "V " + variables() + ": " + lastCall;
    }

    int load(int r, int what) {
        return call("load(" + r + ", " + what + ")", x -> x.load(r, what), model.load(r, what));
    }

    int reckon(int op, int r, int a, int b) {
        return call("reckon(" + op + ", " + r + ", " + a + ", " + b + ")", x -> x.reckon(op, r, a, b),
                model.reckon(op, r, a, b));
    }

    int not(int r, int a) {
        return call("not(" + r + ", " + a + ")", x -> x.not(r, a), model.not(r, a));
    }

    int with(int r, int a, int v, boolean one) {
        return call("with(" + r + ", " + a + ", " + v + ", " + one + ")", x -> x.with(r, a, v, one),
                model.with(r, a, v, one));
    }

    int bind(int r, int a, int v, boolean all) {
        return call("bind(" + r + ", " + a + ", " + v + ", " + all + ")", x -> x.bind(r, a, v, all),
                model.bind(r, a, v, all));
    }

    int put(int r, int a, int v, int b) {
        return call("put(" + r + ", " + a + ", " + v + ", " + b + ")", x -> x.put(r, a, v, b), model.put(r, a, v, b));
    }

    int many(int r) {
        return call("many(" + r + ")", x -> x.many(r), model.many(r));
    }

    int nth(int r, int k) {
        return call("nth(" + r + ", " + k + ")", x -> x.nth(r, k), model.nth(r, k));
    }

    int value(int r, int assignment) {
        return call("value(" + r + ", " + assignment + ")", x -> x.value(r, assignment), model.value(r, assignment));
    }

    boolean same(int a, int b) {
        return call("same(" + a + ", " + b + ")", x -> x.same(a, b) ? 1 : 0, model.same(a, b) ? 1 : 0) == 1;
    }

    int size(int r) {
        return call("size(" + r + ")", x -> x.size(r), model.size(r));
    }

    int matters(int r) {
        return call("matters(" + r + ")", x -> x.matters(r), model.matters(r));
    }

    /** The last call's answer is the one that the test itself names, not the model's alone. */
    void answered(int got, int due) {
        Check.due(lastCall(), got, due);
    }

    void answered(boolean got, boolean due) {
        Check.due(lastCall(), got, due);
    }

    /** What register r holds after the calls made so far, as a text of 0 and 1, the value of assignment 0 first. */
    String table(int r) {
        StringBuilder text = new StringBuilder();
        int left = 0;
        FunctionRoom again = null;
        for (int number = 0; number < assignments(); number++) {
            if (left == 0) {
                again = madeAgain();
                left = callsLeft();
            }
            text.append(again.value(r, number));
            left--;
        }
        return text.toString();
    }

    /** Every register holds what it has to hold after the calls made so far. */
    void holds() {
        for (int r = 0; r < REGISTERS; r++) {
            holds(r);
        }
    }

    void holds(int r) {
        Check.due("register " + r + " after " + lastCall(), table(r), model.table(r));
    }

    private int call(String text, ToIntFunction<FunctionRoom> made, int due) {
        if (callsLeft() == 0) {
            throw new IllegalStateException("the test asks more than " + CALLS + " calls of one object");
        }
        lastCall = text;
        calls.add(made);
        int got = made.applyAsInt(room);
        Check.due(lastCall(), got, due);
        return got;
    }

    private FunctionRoom madeAgain() {
        if (callsLeft() == 0) {
            throw new IllegalStateException("no call is left to read a register with");
        }
        FunctionRoom again = new FunctionRoom(asked);
        for (ToIntFunction<FunctionRoom> call : calls) {
            call.applyAsInt(again);
        }
        return again;
    }
}
