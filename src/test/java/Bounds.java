import java.util.function.ToIntFunction;

/** What the boundary tests share: registers to begin with, numbers beyond the edges, and the form of one test. */
final class Bounds {
    static final int MOST_VARIABLES = 9;
    static final int FIRST_REGISTER = 0;
    static final int LAST_REGISTER = 31;

    /** In an object made by filled: 1 of all, 0 of all, and a register that is neither. */
    static final int FULL = 1;
    static final int EMPTY = 2;
    static final int MIXED = 23;

    /** In an object made by filled, the registers from here to 30 are made of those before them. */
    private static final int FIRST_COMBINED = 12;

    /** The first below and the first above, the smallest and the largest int, and some that a mask would let in. */
    private static final int[] NO_REGISTERS = {
        -1, 32, Integer.MIN_VALUE, Integer.MAX_VALUE, -2, -31, -32, 33, 63, 64, 256, 65536};

    private Bounds() {
    }

    static int[] noRegisters() {
        return NO_REGISTERS.clone();
    }

    /** Numbers of variables in an object with more of them are here too: what counts is this object's V. */
    static int[] noVariables(int variables) {
        return new int[] {
            -1, variables, Integer.MIN_VALUE, Integer.MAX_VALUE, -2, -3, -variables, variables + 1, MOST_VARIABLES,
            31, 32, 63, 64, 256, 65536};
    }

    /** Register 0 is the first variable, 31 the last, FULL and EMPTY as named, and the others are of many kinds. */
    static Room filled(int variables) {
        Room room = new Room(variables);
        room.load(FIRST_REGISTER, 0);
        room.load(FULL, -1);
        for (int r = 3; r < LAST_REGISTER; r++) {
            if (r < FIRST_COMBINED) {
                room.load(r, (r - 3) % variables);
            } else {
                room.reckon(r % 5, r, r - 9, r - 7 - r % 2);
            }
        }
        room.load(LAST_REGISTER, variables - 1);
        return room;
    }

    /** One test: a call on an object of its own, its answer, and what every register holds then. */
    static void answers(int variables, int due, ToIntFunction<Room> call) {
        Room room = filled(variables);
        room.answered(call.applyAsInt(room), due);
        room.holds();
    }

    static void refused(int variables, ToIntFunction<Room> call) {
        answers(variables, FunctionRoom.REFUSED, call);
    }

    /** As answers, for calls whose answer the model knows best. */
    static void taken(int variables, ToIntFunction<Room> call) {
        Room room = filled(variables);
        Check.due("taken", call.applyAsInt(room) >= 0, true);
        room.holds();
    }
}
