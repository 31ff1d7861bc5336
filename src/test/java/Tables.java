/** Functions written into registers, from texts of 0 and 1, the value of assignment 0 first. */
final class Tables {
    /** Registers 0 to 6 may get the first variables, 7 to 22 the functions of the last two. */
    private static final int FIRST_LEAF = 7;
    private static final int FIRST_FREE = 23;

    private Tables() {
    }

    /** A new object whose register 31 has the function; within 420 calls even for nine variables. */
    static Room roomWith(int variables, String table) {
        Room room = new Room(variables);
        int last = Math.min(2, variables);
        for (int v = 0; v < variables - last; v++) {
            room.load(v, v);
        }
        writeLeaves(room, last);
        int made = write(room, table, 0, 1 << last, FIRST_FREE);
        room.reckon(1, 31, made, made);
        return room;
    }

    /** All functions of the last one or two variables: leaf i has the bits of i as its values, the lowest first. */
    private static void writeLeaves(Room room, int last) {
        int length = 1 << last;
        for (int x = 0; x < length; x++) {
            writeOneAssignment(room, last, x);
        }
        for (int i = 1; i < 1 << length; i++) {
            int rest = i & (i - 1);
            if (rest != 0) {
                room.reckon(1, FIRST_LEAF + i, FIRST_LEAF + rest, FIRST_LEAF + (i & -i));
            }
        }
    }

    private static void writeOneAssignment(Room room, int last, int x) {
        int leaf = FIRST_LEAF + (1 << x);
        room.load(leaf, -1);
        for (int i = 0; i < last; i++) {
            room.load(FIRST_FREE, room.variables() - last + i);
            boolean one = (x >> (last - 1 - i) & 1) == 1;
            room.reckon(one ? 0 : 3, leaf, leaf, FIRST_FREE);
        }
    }

    /** Makes the function of this part of the table, and answers which register has it. */
    private static int write(Room room, String part, int v, int leafLength, int free) {
        if (part.length() == leafLength) {
            StringBuilder highestFirst = new StringBuilder(part).reverse();
            return FIRST_LEAF + Integer.parseInt(highestFirst.toString(), 2);
        }
        String half0 = part.substring(0, part.length() / 2);
        String half1 = part.substring(part.length() / 2);
        int for0 = write(room, half0, v + 1, leafLength, free);
        if (half0.equals(half1)) {
            return for0;
        }
        room.reckon(3, free, for0, v);
        int for1 = write(room, half1, v + 1, leafLength, free + 1);
        room.reckon(0, free + 1, for1, v);
        room.reckon(1, free, free, free + 1);
        return free;
    }

    /** All tables of so many variables, numbered: for 1 to 4 variables. */
    static String numbered(int variables, int which) {
        StringBuilder text = new StringBuilder();
        for (int number = 0; number < 1 << variables; number++) {
            text.append(which >> number & 1);
        }
        return text.toString();
    }

    /** 1 of one assignment alone. */
    static String oneAt(int variables, int number) {
        return "0".repeat(number) + "1" + "0".repeat((1 << variables) - 1 - number);
    }
}
