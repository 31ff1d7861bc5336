import java.util.function.ToIntFunction;

/** Each promise of the document by itself, with ordinary inputs; the boundary cases are in the tests of their own. */
public final class PromisesTest {
    public static void main(String[] args) {
        promise1();
        promise2();
        promise3();
        promise3OfEachV();
        promise4();
        promise5();
        promise6();
        promise5And6OfEachV();
        promise7();
        promise8();
        promise9();
        promise10();
        promise11();
        promise12();
        promise13();
        theTargetMayBeRead();
        Check.end();
    }

    /** Registers 0, 1, 2: the variables; 3: 0 and 1; 4: that or 2. */
    private static Room roomOfThree() {
        Room room = new Room(3);
        room.load(0, 0);
        room.load(1, 1);
        room.load(2, 2);
        room.reckon(0, 3, 0, 1);
        room.reckon(1, 4, 3, 2);
        return room;
    }

    /** The answer to the last call, and what the register holds after it. */
    private static void due(Room room, int got, int r, String table) {
        room.answered(got, table.replace("0", "").length());
        Check.due("register " + r + " after " + room.lastCall(), room.table(r), table);
    }

    private static void promise1() {
        Check.due("REFUSED", FunctionRoom.REFUSED, -1);
        Check.due("NONE", FunctionRoom.NONE, -2);
        for (int variables = 1; variables <= 9; variables++) {
            Room room = new Room(variables);
            Check.due("a new object's 1", room.load(0, -1), 1 << variables);
            Check.due("a new object's last variable", room.load(0, variables - 1), 1 << (variables - 1));
            Check.due("one variable more", room.load(0, variables), FunctionRoom.REFUSED);
        }
    }

    private static void promise2() {
        for (int variables = 1; variables <= 9; variables++) {
            Room room = new Room(variables);
            int all = 1 << variables;
            due(room, room.load(5, -1), 5, "1".repeat(all));
            due(room, room.load(5, -2), 5, "0".repeat(all));
            for (int v = 0; v < variables; v++) {
                int run = 1 << (variables - 1 - v);
                due(room, room.load(5, v), 5, ("0".repeat(run) + "1".repeat(run)).repeat(1 << v));
            }
        }
    }

    private static void promise3() {
        String[] tables = {"0001", "0111", "0110", "0010", "1101"};
        String[] ofItself = {"0011", "0011", "0000", "0000", "1111"};
        for (int op = 0; op < tables.length; op++) {
            Room room = new Room(2);
            room.load(0, 0);
            room.load(1, 1);
            due(room, room.reckon(op, 2, 0, 1), 2, tables[op]);
            due(room, room.reckon(op, 3, 0, 0), 3, ofItself[op]);
            room.holds();
        }
    }

    private static void promise3OfEachV() {
        int[] dueBits = {0b1000, 0b1110, 0b0110, 0b0100, 0b1011};
        for (int variables = 1; variables <= 9; variables++) {
            Room room = new Room(variables);
            int last = variables - 1;
            room.load(0, 0);
            room.load(1, last);
            for (int op = 0; op < dueBits.length; op++) {
                StringBuilder table = new StringBuilder();
                for (int number = 0; number < 1 << variables; number++) {
                    int pair = (number >> last & 1) * 2 + (number & 1);
                    table.append(dueBits[op] >> pair & 1);
                }
                due(room, room.reckon(op, 31, 0, 1), 31, table.toString());
            }
        }
    }

    private static void promise4() {
        Room room = roomOfThree();
        due(room, room.not(5, 4), 5, "10101000");
        due(room, room.not(5, 5), 5, "01010111");
        room.holds();
    }

    private static void promise5() {
        Room room = roomOfThree();
        due(room, room.with(5, 4, 0, false), 5, "01010101");
        due(room, room.with(5, 4, 0, true), 5, "01110111");
        due(room, room.with(5, 4, 1, false), 5, "01010101");
        due(room, room.with(5, 4, 1, true), 5, "01011111");
        due(room, room.with(5, 4, 2, false), 5, "00000011");
        due(room, room.with(5, 4, 2, true), 5, "11111111");
        room.holds();
    }

    private static void promise6() {
        Room room = roomOfThree();
        due(room, room.bind(5, 4, 0, false), 5, "01110111");
        due(room, room.bind(5, 4, 0, true), 5, "01010101");
        due(room, room.bind(5, 4, 1, false), 5, "01011111");
        due(room, room.bind(5, 4, 1, true), 5, "01010101");
        due(room, room.bind(5, 4, 2, false), 5, "11111111");
        due(room, room.bind(5, 4, 2, true), 5, "00000011");
        room.holds();
    }

    private static void promise5And6OfEachV() {
        for (int variables = 1; variables <= 9; variables++) {
            Room room = new Room(variables);
            int all = 1 << variables;
            for (int v = 0; v < variables; v++) {
                room.load(0, v);
                due(room, room.with(1, 0, v, true), 1, "1".repeat(all));
                due(room, room.with(1, 0, v, false), 1, "0".repeat(all));
                due(room, room.bind(1, 0, v, false), 1, "1".repeat(all));
                due(room, room.bind(1, 0, v, true), 1, "0".repeat(all));
            }
        }
    }

    private static void promise7() {
        Room room = roomOfThree();
        // (x0 and x1) or x0
        due(room, room.put(5, 4, 2, 0), 5, "00001111");
        // (x2 and x1) or x2
        due(room, room.put(5, 4, 0, 2), 5, "01010101");
        room.not(6, 2);
        // (x0 and not x2) or x2
        due(room, room.put(5, 4, 1, 6), 5, "01011111");
        // What is put in may have the variable itself: (x0 and x1) or not x2
        due(room, room.put(5, 4, 2, 6), 5, "10101011");
        due(room, room.put(5, 4, 2, 2), 5, "01010111");
        room.holds();
    }

    private static void promise8() {
        Room room = roomOfThree();
        Check.due("many(4)", room.many(4), 5);
        Check.due("many(3)", room.many(3), 2);
        Check.due("many(0)", room.many(0), 4);
        room.holds();
    }

    private static void promise9() {
        Room room = roomOfThree();
        int[] due = {1, 3, 5, 6, 7};
        for (int k = 0; k < due.length; k++) {
            room.answered(room.nth(4, k), due[k]);
        }
        room.answered(room.nth(4, due.length), FunctionRoom.NONE);
        room.holds();
    }

    private static void promise10() {
        Room room = roomOfThree();
        int[] due = {0, 1, 0, 1, 0, 1, 1, 1};
        for (int number = 0; number < due.length; number++) {
            room.answered(room.value(4, number), due[number]);
        }
        room.answered(room.value(4, due.length), FunctionRoom.REFUSED);
        room.holds();
    }

    private static void promise11() {
        Room room = roomOfThree();
        Check.due("same(4, 4)", room.same(4, 4), true);
        Check.due("same(4, 3)", room.same(4, 3), false);
        room.not(5, 4);
        Check.due("same(4, 5), one not the other", room.same(4, 5), false);
        room.not(5, 5);
        Check.due("same(4, 5), made in two ways", room.same(4, 5), true);
        Check.due("same(5, 4), made in two ways", room.same(5, 4), true);
        room.holds();
    }

    private static void promise12() {
        Room room = roomOfThree();
        Check.due("size(4)", room.size(4), 3);
        Check.due("size(3)", room.size(3), 2);
        Check.due("size(0)", room.size(0), 1);
        room.reckon(2, 6, 0, 2);
        Check.due("size of x0 apart from x2", room.size(6), 3);
        Check.due("size(4) again", room.size(4), 3);
        room.holds();
        Check.due("size where both halves share parts", Tables.roomWith(4, "0001011101110001").size(31), 6);
        Check.due("size of (x0 and x1) or (x2 and x3)", Tables.roomWith(4, "0001000100011111").size(31), 4);
        for (int variables = 1; variables <= 9; variables++) {
            Room odd = new Room(variables);
            for (int v = 0; v < variables; v++) {
                odd.load(1, v);
                odd.reckon(2, 0, 0, 1);
            }
            Check.due("size of odd of " + variables, odd.size(0), 2 * variables - 1);
        }
    }

    private static void promise13() {
        Room room = roomOfThree();
        Check.due("matters(0)", room.matters(0), 1);
        Check.due("matters(1)", room.matters(1), 2);
        Check.due("matters(2)", room.matters(2), 4);
        Check.due("matters(3)", room.matters(3), 3);
        Check.due("matters(4)", room.matters(4), 7);
        room.reckon(2, 5, 0, 2);
        Check.due("matters of x0 apart from x2", room.matters(5), 5);
        room.holds();
    }

    /** With nine variables, as a function of many words is the one that is spoilt if it's overwritten while read. */
    private static void theTargetMayBeRead() {
        for (int v = 0; v < 9; v++) {
            Room room = new Room(9);
            room.load(1, (v + 1) % 9);
            room.load(2, v);
            room.not(4, 2);
            int given = v;
            inPlace(room, x -> x.with(3, 0, given, false), x -> x.with(0, 0, given, false));
            inPlace(room, x -> x.with(3, 0, given, true), x -> x.with(0, 0, given, true));
            inPlace(room, x -> x.bind(3, 0, given, false), x -> x.bind(0, 0, given, false));
            inPlace(room, x -> x.bind(3, 0, given, true), x -> x.bind(0, 0, given, true));
            inPlace(room, x -> x.put(3, 0, given, 1), x -> x.put(0, 0, given, 1));
            inPlace(room, x -> x.put(3, 2, given, 0), x -> x.put(0, 2, given, 0));
            inPlace(room, x -> x.put(3, 0, given, 4), x -> x.put(0, 0, given, 4));
            inPlace(room, x -> x.put(3, 0, given, 0), x -> x.put(0, 0, given, 0));
        }
    }

    private static void inPlace(Room room, ToIntFunction<Room> aside, ToIntFunction<Room> onItself) {
        room.reckon(3, 0, 2, 1);
        int due = aside.applyAsInt(room);
        room.answered(onItself.applyAsInt(room), due);
        String call = room.lastCall();
        Check.due("the same after " + call, room.same(0, 3), true);
        room.holds(0);
        room.holds(3);
    }
}
