import java.util.ArrayList;
import java.util.List;
import java.util.function.ToIntFunction;

/** The boundary cases of promise 1, of the section Terms, and of the 512 calls that an object is used for. */
public final class NewObjectBoundsTest {
    public static void main(String[] args) {
        tooFewVariables();
        asManyVariablesAsAsked();
        tooManyVariables();
        for (int variables = 1; variables <= Bounds.MOST_VARIABLES; variables++) {
            registersAtFirst(variables);
            registersAtFirstByTheReadingCalls(variables);
            firstVariableIsTheHighestBit(variables);
            lastVariableIsTheLowestBit(variables);
            allRegistersAreApart(variables);
            lastCallAfterRefusedCalls(variables);
            lastCallAfterSettingCalls(variables);
            lastCallAfterReadingCalls(variables);
        }
        objectsAreApart();
        Check.end();
    }

    private static void tooFewVariables() {
        for (int asked : new int[] {0, -1, -2, -8, -9, -10, -255, -65535, Integer.MIN_VALUE + 1, Integer.MIN_VALUE}) {
            hasVariables(asked, 1);
        }
    }

    private static void asManyVariablesAsAsked() {
        for (int asked = 1; asked <= Bounds.MOST_VARIABLES; asked++) {
            hasVariables(asked, asked);
        }
    }

    private static void tooManyVariables() {
        for (int asked : new int[] {10, 11, 31, 32, 33, 64, 257, 65537, Integer.MAX_VALUE - 1, Integer.MAX_VALUE}) {
            hasVariables(asked, Bounds.MOST_VARIABLES);
        }
    }

    /** Each call that takes a variable or an assignment takes the last of them and no more. */
    private static void hasVariables(int asked, int due) {
        Room room = new Room(asked);
        int all = 1 << due;
        int half = all / 2;
        room.answered(room.load(0, -1), all);
        room.answered(room.load(1, due - 1), half);
        room.answered(room.load(2, due), FunctionRoom.REFUSED);
        room.answered(room.not(2, 3), all);
        room.answered(room.with(3, 1, due - 1, true), all);
        room.answered(room.with(4, 1, due, true), FunctionRoom.REFUSED);
        room.answered(room.bind(4, 1, due - 1, false), all);
        room.answered(room.bind(5, 1, due, false), FunctionRoom.REFUSED);
        room.answered(room.put(5, 1, due - 1, 0), all);
        room.answered(room.put(6, 1, due, 0), FunctionRoom.REFUSED);
        room.answered(room.value(0, all - 1), 1);
        room.answered(room.value(0, all), FunctionRoom.REFUSED);
        room.answered(room.nth(0, all - 1), all - 1);
        room.answered(room.nth(0, all), FunctionRoom.NONE);
        room.answered(room.matters(1), 1 << (due - 1));
        room.answered(room.size(1), 1);
        room.holds();
    }

    private static void registersAtFirst(int variables) {
        Room room = new Room(variables);
        for (int r = 0; r < Room.REGISTERS; r++) {
            Check.due("a new object's register " + r, room.table(r), "0".repeat(1 << variables));
        }
    }

    private static void registersAtFirstByTheReadingCalls(int variables) {
        for (int r = 0; r < Room.REGISTERS; r++) {
            Room room = new Room(variables);
            room.answered(room.many(r), 0);
            room.answered(room.nth(r, 0), FunctionRoom.NONE);
            room.answered(room.size(r), 0);
            room.answered(room.matters(r), 0);
            for (int other = 0; other < Room.REGISTERS; other++) {
                room.answered(room.same(r, other), true);
            }
            room.holds();
        }
    }

    private static void firstVariableIsTheHighestBit(int variables) {
        Room room = new Room(variables);
        int half = 1 << (variables - 1);
        room.load(0, 0);
        Check.due("variable 0", room.table(0), "0".repeat(half) + "1".repeat(half));
        room.answered(room.value(0, half - 1), 0);
        room.answered(room.value(0, half), 1);
        room.answered(room.nth(0, 0), half);
    }

    private static void lastVariableIsTheLowestBit(int variables) {
        Room room = new Room(variables);
        int half = 1 << (variables - 1);
        room.load(0, variables - 1);
        Check.due("the last variable", room.table(0), "01".repeat(half));
        room.answered(room.value(0, 0), 0);
        room.answered(room.value(0, 1), 1);
        room.answered(room.nth(0, 0), 1);
    }

    /** Each register gets 1 while all others are 0, and 0 while all others are 1. */
    private static void allRegistersAreApart(int variables) {
        for (int r = 0; r < Room.REGISTERS; r++) {
            Room room = new Room(variables);
            room.load(r, -1);
            room.holds();
            for (int other = 0; other < Room.REGISTERS; other++) {
                room.load(other, -1);
            }
            room.load(r, -2);
            room.holds();
        }
    }

    /** Every call that the class has, each with an answer of its own in an object made by Bounds.filled. */
    private static List<ToIntFunction<Room>> everyCall(int variables) {
        List<ToIntFunction<Room>> calls = new ArrayList<>();
        calls.add(x -> x.load(0, -1));
        calls.add(x -> x.load(31, variables - 1));
        calls.add(x -> x.reckon(4, 31, 0, 31));
        calls.add(x -> x.not(0, Bounds.MIXED));
        calls.add(x -> x.with(0, 0, 0, true));
        calls.add(x -> x.bind(0, 31, variables - 1, false));
        calls.add(x -> x.put(0, 31, variables - 1, 0));
        calls.add(x -> x.many(31));
        calls.add(x -> x.nth(0, 0));
        calls.add(x -> x.nth(Bounds.EMPTY, 0));
        calls.add(x -> x.value(Bounds.FULL, (1 << variables) - 1));
        calls.add(x -> x.same(0, 0) ? 1 : 0);
        calls.add(x -> x.size(Bounds.MIXED));
        calls.add(x -> x.matters(31));
        calls.add(x -> x.load(32, 0));
        return calls;
    }

    /** The model has the answer that is due; what is left is one call, and it is the 512th. */
    private static void lastCall(Room room, ToIntFunction<Room> call) {
        Check.due("calls left", room.callsLeft(), 1);
        call.applyAsInt(room);
    }

    private static void lastCallAfterRefusedCalls(int variables) {
        for (ToIntFunction<Room> call : everyCall(variables)) {
            Room room = Bounds.filled(variables);
            while (room.callsLeft() > 1) {
                room.answered(room.load(0, variables), FunctionRoom.REFUSED);
            }
            lastCall(room, call);
        }
    }

    private static void lastCallAfterSettingCalls(int variables) {
        for (ToIntFunction<Room> call : everyCall(variables)) {
            Room room = Bounds.filled(variables);
            while (room.callsLeft() > 1) {
                room.not(room.callsLeft() % Room.REGISTERS, 31 - room.callsLeft() % 30);
            }
            lastCall(room, call);
        }
    }

    private static void lastCallAfterReadingCalls(int variables) {
        for (ToIntFunction<Room> call : everyCall(variables)) {
            Room room = Bounds.filled(variables);
            while (room.callsLeft() > 1) {
                room.size(room.callsLeft() % Room.REGISTERS);
            }
            lastCall(room, call);
        }
    }

    /** Objects of other sizes, used in turn: what one does is not seen in another. */
    private static void objectsAreApart() {
        List<Room> rooms = new ArrayList<>();
        for (int variables = 1; variables <= Bounds.MOST_VARIABLES; variables++) {
            rooms.add(Bounds.filled(variables));
            rooms.add(new Room(variables));
        }
        for (int turn = 0; turn < 40; turn++) {
            for (Room room : rooms) {
                room.not(turn % Room.REGISTERS, turn * 7 % Room.REGISTERS);
                room.size(turn % Room.REGISTERS);
                room.value(turn % Room.REGISTERS, 1);
            }
        }
        for (Room room : rooms) {
            for (int r = 0; r < Room.REGISTERS; r++) {
                room.many(r);
            }
        }
    }
}
