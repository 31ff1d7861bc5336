/** The boundary cases of the calls that read registers: promises 8 to 13. Each case has an object of its own. */
public final class ReadingBoundsTest {
    /** The most parts that a function of 1 to 9 variables can have, and functions that have them. */
    private static final int[] MOST_PARTS = {1, 3, 5, 9, 17, 29, 45, 77, 141};

    public static void main(String[] args) {
        for (int variables = 1; variables <= Bounds.MOST_VARIABLES; variables++) {
            manyTakes(variables);
            manyRefuses(variables);
            nthOfFull(variables);
            nthOfEmpty(variables);
            nthOfOneAssignment(variables);
            nthOfVariables(variables);
            nthRefuses(variables);
            valueTakes(variables);
            valueRefusesAssignments(variables);
            valueRefusesRegisters(variables);
            sameTakes(variables);
            sameOfOthers(variables);
            sameOfOneAssignment(variables);
            sizeTakes(variables);
            sizeOfOneAssignment(variables);
            sizeMost(variables);
            sizeRefuses(variables);
            mattersTakes(variables);
            mattersOfOneAssignment(variables);
            mattersRefuses(variables);
        }
        nthOfAll512();
        valueOfAll512();
        sameOfEachOf512();
        partsThatAreOne();
        partsThatAreNone();
        partsAlikeInTheirNames();
        Check.end();
    }

    private static void manyTakes(int variables) {
        int all = 1 << variables;
        Bounds.answers(variables, all / 2, x -> x.many(Bounds.FIRST_REGISTER));
        Bounds.answers(variables, all / 2, x -> x.many(Bounds.LAST_REGISTER));
        Bounds.answers(variables, all, x -> x.many(Bounds.FULL));
        Bounds.answers(variables, 0, x -> x.many(Bounds.EMPTY));
        for (int r = Bounds.FIRST_REGISTER; r <= Bounds.LAST_REGISTER; r++) {
            int each = r;
            Bounds.taken(variables, x -> x.many(each));
        }
        for (int number : new int[] {0, all - 1}) {
            Check.due("many of one", Tables.roomWith(variables, Tables.oneAt(variables, number)).many(31), 1);
            Check.due("many of all but one", allButOne(variables, number).many(31), all - 1);
        }
    }

    private static Room allButOne(int variables, int number) {
        Room room = Tables.roomWith(variables, Tables.oneAt(variables, number));
        room.not(31, 31);
        return room;
    }

    private static void manyRefuses(int variables) {
        for (int no : Bounds.noRegisters()) {
            Bounds.refused(variables, x -> x.many(no));
        }
    }

    private static void nthOfFull(int variables) {
        int all = 1 << variables;
        Bounds.answers(variables, 0, x -> x.nth(Bounds.FULL, 0));
        Bounds.answers(variables, all - 1, x -> x.nth(Bounds.FULL, all - 1));
        for (int k : noneOf(all)) {
            Bounds.answers(variables, FunctionRoom.NONE, x -> x.nth(Bounds.FULL, k));
        }
    }

    /** For so many assignments: the first number below and above, the smallest and the largest, and more. */
    private static int[] noneOf(int many) {
        return new int[] {
            -1, many, Integer.MIN_VALUE, Integer.MAX_VALUE, -2, -many - 1, many + 1, 512, 1024, 65536};
    }

    private static void nthOfEmpty(int variables) {
        for (int k : noneOf(0)) {
            Bounds.answers(variables, FunctionRoom.NONE, x -> x.nth(Bounds.EMPTY, k));
        }
    }

    private static void nthOfOneAssignment(int variables) {
        int last = (1 << variables) - 1;
        for (int number : new int[] {0, last}) {
            Room room = Tables.roomWith(variables, Tables.oneAt(variables, number));
            room.answered(room.nth(31, 0), number);
            for (int k : noneOf(1)) {
                room.answered(room.nth(31, k), FunctionRoom.NONE);
            }
            room.holds(31);
        }
        Room butFirst = allButOne(variables, 0);
        butFirst.answered(butFirst.nth(31, 0), 1);
        butFirst.answered(butFirst.nth(31, last - 1), last);
        butFirst.answered(butFirst.nth(31, last), FunctionRoom.NONE);
        Room butLast = allButOne(variables, last);
        butLast.answered(butLast.nth(31, 0), 0);
        butLast.answered(butLast.nth(31, last - 1), last - 1);
        butLast.answered(butLast.nth(31, last), FunctionRoom.NONE);
    }

    private static void nthOfVariables(int variables) {
        int all = 1 << variables;
        int half = all / 2;
        Bounds.answers(variables, half, x -> x.nth(Bounds.FIRST_REGISTER, 0));
        Bounds.answers(variables, all - 1, x -> x.nth(Bounds.FIRST_REGISTER, half - 1));
        Bounds.answers(variables, 1, x -> x.nth(Bounds.LAST_REGISTER, 0));
        Bounds.answers(variables, all - 1, x -> x.nth(Bounds.LAST_REGISTER, half - 1));
        for (int k : noneOf(half)) {
            Bounds.answers(variables, FunctionRoom.NONE, x -> x.nth(Bounds.FIRST_REGISTER, k));
            Bounds.answers(variables, FunctionRoom.NONE, x -> x.nth(Bounds.LAST_REGISTER, k));
        }
    }

    /** A register that there is none of is refused for each k, also where there would be none. */
    private static void nthRefuses(int variables) {
        for (int no : Bounds.noRegisters()) {
            Bounds.refused(variables, x -> x.nth(no, 0));
            for (int k : noneOf(1 << variables)) {
                Bounds.refused(variables, x -> x.nth(no, k));
            }
        }
    }

    /** In two objects, as one is used for 512 calls and the first of them sets the register. */
    private static void nthOfAll512() {
        for (int from : new int[] {0, 256}) {
            Room room = new Room(9);
            room.load(0, -1);
            for (int k = from; k < from + 256; k++) {
                room.answered(room.nth(0, k), k);
            }
        }
    }

    private static void valueTakes(int variables) {
        int last = (1 << variables) - 1;
        Bounds.answers(variables, 1, x -> x.value(Bounds.FULL, 0));
        Bounds.answers(variables, 1, x -> x.value(Bounds.FULL, last));
        Bounds.answers(variables, 0, x -> x.value(Bounds.EMPTY, 0));
        Bounds.answers(variables, 0, x -> x.value(Bounds.EMPTY, last));
        Bounds.answers(variables, 0, x -> x.value(Bounds.FIRST_REGISTER, 0));
        Bounds.answers(variables, 1, x -> x.value(Bounds.FIRST_REGISTER, last));
        Bounds.answers(variables, 0, x -> x.value(Bounds.LAST_REGISTER, 0));
        Bounds.answers(variables, 1, x -> x.value(Bounds.LAST_REGISTER, last));
        for (int r = Bounds.FIRST_REGISTER; r <= Bounds.LAST_REGISTER; r++) {
            int each = r;
            Bounds.taken(variables, x -> x.value(each, 0));
            Bounds.taken(variables, x -> x.value(each, last));
        }
    }

    private static void valueRefusesAssignments(int variables) {
        int all = 1 << variables;
        int[] none = {
            -1, all, Integer.MIN_VALUE, Integer.MAX_VALUE, -2, -all, all + 1, 2 * all - 1, 2 * all, 512, 1023, 1024,
            65536};
        for (int number : none) {
            Bounds.refused(variables, x -> x.value(Bounds.FIRST_REGISTER, number));
            Bounds.refused(variables, x -> x.value(Bounds.LAST_REGISTER, number));
            Bounds.refused(variables, x -> x.value(Bounds.FULL, number));
            Bounds.refused(variables, x -> x.value(Bounds.EMPTY, number));
        }
    }

    private static void valueRefusesRegisters(int variables) {
        int all = 1 << variables;
        for (int no : Bounds.noRegisters()) {
            for (int number : new int[] {0, all - 1, -1, all}) {
                Bounds.refused(variables, x -> x.value(no, number));
            }
        }
    }

    private static void valueOfAll512() {
        Room full = new Room(9);
        full.load(31, -1);
        Room empty = new Room(9);
        empty.load(31, -2);
        for (int number = 1; number < 512; number++) {
            full.answered(full.value(31, number), 1);
            empty.answered(empty.value(31, number), 0);
        }
    }

    private static void sameDue(int variables, boolean due, int a, int b) {
        Bounds.answers(variables, due ? 1 : 0, x -> x.same(a, b) ? 1 : 0);
        Bounds.answers(variables, due ? 1 : 0, x -> x.same(b, a) ? 1 : 0);
    }

    private static void sameTakes(int variables) {
        for (int r = Bounds.FIRST_REGISTER; r <= Bounds.LAST_REGISTER; r++) {
            sameDue(variables, true, r, r);
        }
        sameDue(variables, false, Bounds.FULL, Bounds.EMPTY);
        sameDue(variables, variables == 1, Bounds.FIRST_REGISTER, Bounds.LAST_REGISTER);
        sameDue(variables, false, Bounds.FIRST_REGISTER, Bounds.FULL);
        sameDue(variables, false, Bounds.LAST_REGISTER, Bounds.EMPTY);
    }

    private static void sameOfOthers(int variables) {
        for (int no : Bounds.noRegisters()) {
            sameDue(variables, false, no, Bounds.FIRST_REGISTER);
            sameDue(variables, false, no, Bounds.LAST_REGISTER);
            sameDue(variables, false, no, Bounds.FULL);
            sameDue(variables, false, no, Bounds.EMPTY);
            for (int other : Bounds.noRegisters()) {
                sameDue(variables, false, no, other);
            }
        }
    }

    /** Apart for the first or the last assignment alone; register 7 is 0 of all in an object made by Tables. */
    private static void sameOfOneAssignment(int variables) {
        for (int number : new int[] {0, (1 << variables) - 1}) {
            Room one = Tables.roomWith(variables, Tables.oneAt(variables, number));
            one.answered(one.same(7, 31), false);
            one.answered(one.same(31, 7), false);
            Room butOne = allButOne(variables, number);
            butOne.load(0, -1);
            butOne.answered(butOne.same(0, 31), false);
            butOne.answered(butOne.same(31, 0), false);
        }
    }

    private static void sameOfEachOf512() {
        for (int number = 0; number < 512; number++) {
            Room room = Tables.roomWith(9, Tables.oneAt(9, number));
            room.answered(room.same(7, 31), false);
            room.answered(room.same(31, 7), false);
            room.answered(room.nth(31, 0), number);
        }
    }

    private static void sizeTakes(int variables) {
        Bounds.answers(variables, 1, x -> x.size(Bounds.FIRST_REGISTER));
        Bounds.answers(variables, 1, x -> x.size(Bounds.LAST_REGISTER));
        Bounds.answers(variables, 0, x -> x.size(Bounds.FULL));
        Bounds.answers(variables, 0, x -> x.size(Bounds.EMPTY));
        for (int r = Bounds.FIRST_REGISTER; r <= Bounds.LAST_REGISTER; r++) {
            int each = r;
            Bounds.taken(variables, x -> x.size(each));
        }
    }

    /** One part for each k, the first (k 0) and the last (k V - 1) too. */
    private static void sizeOfOneAssignment(int variables) {
        for (int number : new int[] {0, (1 << variables) - 1}) {
            Room one = Tables.roomWith(variables, Tables.oneAt(variables, number));
            one.answered(one.size(31), variables);
            Room butOne = allButOne(variables, number);
            butOne.answered(butOne.size(31), variables);
        }
    }

    private static void sizeMost(int variables) {
        Room room = Tables.roomWith(variables, withMostParts(variables));
        room.answered(room.size(31), MOST_PARTS[variables - 1]);
        room.answered(room.size(7), 0);
        room.answered(room.size(31), MOST_PARTS[variables - 1]);
        room.holds(31);
        room.holds(7);
    }

    /** All parts above those of two variables differ, and all 12 of two variables and both of one are there. */
    private static String withMostParts(int variables) {
        String[] dependent = {"0001", "0010", "0011", "0100", "0110", "0111", "1000", "1001"};
        StringBuilder table = new StringBuilder();
        if (variables <= 2) {
            return variables == 1 ? "01" : "0110";
        }
        int blocks = 1 << (variables - 2);
        int step = Math.max(1, blocks / 2 / 16);
        for (int block = 0; block < blocks; block++) {
            if (variables <= 5) {
                table.append(dependent[block]);
            } else if (variables == 6) {
                table.append(fourBits(block));
            } else {
                int first = block / 2 / step;
                table.append(fourBits(block % 2 == 0 ? first : first + 1 + block / 2 % step));
            }
        }
        return table.toString();
    }

    private static String fourBits(int number) {
        return Integer.toBinaryString(16 + number % 16).substring(1);
    }

    private static void sizeRefuses(int variables) {
        for (int no : Bounds.noRegisters()) {
            Bounds.refused(variables, x -> x.size(no));
        }
    }

    private static void sizeDue(String table, int due) {
        int variables = Integer.numberOfTrailingZeros(table.length());
        Room room = Tables.roomWith(variables, table);
        room.answered(room.size(31), due);
    }

    /** Two parts of one k are one if they are the same; parts of two k are two, though alike in their halves. */
    private static void partsThatAreOne() {
        sizeDue("0110", 3);
        sizeDue("01101001", 5);
        sizeDue("0001111000011110", 5);
        // Once the first variable is 0, x2; once it is 1, x1: both are 0 for 0 and 1 for 1, but of another k.
        sizeDue("01010011", 3);
        sizeDue("00110101", 3);
        sizeDue("0011001101010101", 3);
    }

    /** No part where it is the same for 0 and for 1 of variable k, though it is not the same of those behind it. */
    private static void partsThatAreNone() {
        sizeDue("0101", 1);
        sizeDue("01010101", 1);
        sizeDue("00110011", 1);
        sizeDue("01100110", 3);
        sizeDue("0000000000001111", 2);
        sizeDue("0101010110101010", 3);
    }

    /**
     * Made for a program that counts parts by numbering them from the last variable on: with 0 and 1 for the
     * constants, 2 to 15 for the parts of one and two variables and 16 to 65 for those of three, two parts of four
     * have the halves 64 and 65, and 65 and 1. They must not become one where a number is packed into six bits.
     */
    private static void partsAlikeInTheirNames() {
        StringBuilder table = new StringBuilder();
        String last = "";
        int made = 0;
        for (int number = 0; made < 50; number++) {
            if (number / 16 != number % 16) {
                last = fourBits(number / 16) + fourBits(number);
                table.append(last);
                made++;
            }
        }
        table.append(last).append("1".repeat(8));
        table.append("0".repeat(512 - table.length()));
        sizeDue(table.toString(), 117);
    }

    private static void mattersTakes(int variables) {
        Bounds.answers(variables, 1, x -> x.matters(Bounds.FIRST_REGISTER));
        Bounds.answers(variables, 1 << (variables - 1), x -> x.matters(Bounds.LAST_REGISTER));
        Bounds.answers(variables, 0, x -> x.matters(Bounds.FULL));
        Bounds.answers(variables, 0, x -> x.matters(Bounds.EMPTY));
        for (int r = Bounds.FIRST_REGISTER; r <= Bounds.LAST_REGISTER; r++) {
            int each = r;
            Bounds.taken(variables, x -> x.matters(each));
        }
        for (int v = 0; v < variables; v++) {
            int each = v;
            Room room = new Room(variables);
            room.load(0, each);
            room.answered(room.matters(0), 1 << each);
        }
    }

    /** Each variable matters, though for one value of the others alone. */
    private static void mattersOfOneAssignment(int variables) {
        int last = (1 << variables) - 1;
        for (int number : new int[] {0, last}) {
            Room one = Tables.roomWith(variables, Tables.oneAt(variables, number));
            one.answered(one.matters(31), last);
            Room butOne = allButOne(variables, number);
            butOne.answered(butOne.matters(31), last);
        }
    }

    private static void mattersRefuses(int variables) {
        for (int no : Bounds.noRegisters()) {
            Bounds.refused(variables, x -> x.matters(no));
        }
    }
}
