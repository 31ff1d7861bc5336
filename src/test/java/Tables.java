/**
 * Registers written out as texts of 0 and 1, the value of assignment 0 first. To write and read a whole table may
 * take more than the 512 calls that the document promises; the class counts no calls, so the tests may go on.
 */
final class Tables {
    static final int REGISTERS = 32;

    private Tables() {
    }

    static String of(FunctionRoom room, int variables, int r) {
        StringBuilder text = new StringBuilder();
        for (int number = 0; number < 1 << variables; number++) {
            text.append(room.value(r, number));
        }
        return text.toString();
    }

    static String ofAll(FunctionRoom room, int variables) {
        StringBuilder text = new StringBuilder();
        for (int r = 0; r < REGISTERS; r++) {
            text.append(of(room, variables, r)).append(' ');
        }
        return text.toString();
    }

    /** Makes register 0 the function of the table, one assignment after the other; uses registers 0 to 2. */
    static FunctionRoom roomWith(int variables, String table) {
        FunctionRoom room = new FunctionRoom(variables);
        for (int number = 0; number < table.length(); number++) {
            if (table.charAt(number) == '1') {
                addAssignment(room, variables, number);
            }
        }
        return room;
    }

    private static void addAssignment(FunctionRoom room, int variables, int number) {
        room.load(1, -1);
        for (int v = 0; v < variables; v++) {
            room.load(2, v);
            boolean one = (number >> (variables - 1 - v) & 1) == 1;
            room.reckon(one ? 0 : 3, 1, 1, 2);
        }
        room.reckon(1, 0, 0, 1);
    }

    /** All tables of so many variables, numbered: for 1 to 4 variables. */
    static String numbered(int variables, int which) {
        StringBuilder text = new StringBuilder();
        for (int number = 0; number < 1 << variables; number++) {
            text.append(which >> number & 1);
        }
        return text.toString();
    }
}
