import java.util.function.ToIntFunction;

/** Each promise of the document by itself: ordinary inputs, the edges, and wrong inputs. */
public final class PromisesTest {
    private static final int[] NO_REGISTERS = {-1, 32, 33, -2, 64, Integer.MIN_VALUE, Integer.MAX_VALUE};

    public static void main(String[] args) {
        promise1();
        promise2();
        promise3();
        promise3AllPairs();
        promise4();
        promise5();
        promise6();
        promise7();
        promise8();
        promise9();
        promise10();
        promise11();
        promise12();
        promise12ManyVariables();
        promise13();
        theTargetMayBeRead();
        Check.end();
    }

    /** Registers 0, 1, 2: the variables; 3: 0 and 1; 4: that or 2. */
    private static FunctionRoom roomOfThree() {
        FunctionRoom room = new FunctionRoom(3);
        room.load(0, 0);
        room.load(1, 1);
        room.load(2, 2);
        room.reckon(0, 3, 0, 1);
        room.reckon(1, 4, 3, 2);
        return room;
    }

    /** The call is refused, and no register is another one afterwards. */
    private static void refused(String call, FunctionRoom room, int variables, ToIntFunction<FunctionRoom> made) {
        String before = Tables.ofAll(room, variables);
        Check.due(call, made.applyAsInt(room), FunctionRoom.REFUSED);
        Check.due("the registers after " + call, Tables.ofAll(room, variables), before);
    }

    private static int[] noVariables(int variables) {
        return new int[] {-1, -2, -3, variables, variables + 1, 63, 64, Integer.MIN_VALUE, Integer.MAX_VALUE};
    }

    private static void promise1() {
        Check.due("REFUSED", FunctionRoom.REFUSED, -1);
        Check.due("NONE", FunctionRoom.NONE, -2);
        int[] asked = {Integer.MIN_VALUE, -1, 0, 1, 2, 3, 4, 5, 6, 7, 8, 9, 10, 40, Integer.MAX_VALUE};
        int[] due = {1, 1, 1, 1, 2, 3, 4, 5, 6, 7, 8, 9, 9, 9, 9};
        for (int i = 0; i < asked.length; i++) {
            String room = "FunctionRoom(" + asked[i] + ") ";
            FunctionRoom fresh = new FunctionRoom(asked[i]);
            for (int r = 0; r < Tables.REGISTERS; r++) {
                Check.due(room + "register " + r, Tables.of(fresh, due[i], r), "0".repeat(1 << due[i]));
            }
            Check.due(room + "value behind the last", fresh.value(0, 1 << due[i]), FunctionRoom.REFUSED);
            Check.due(room + "last variable", fresh.load(0, due[i] - 1), 1 << (due[i] - 1));
            Check.due(room + "variable behind the last", fresh.load(0, due[i]), FunctionRoom.REFUSED);
        }
        FunctionRoom one = new FunctionRoom(2);
        FunctionRoom other = new FunctionRoom(2);
        one.load(0, -1);
        Check.due("many(0) of another object", other.many(0), 0);
    }

    private static void promise2() {
        String[] dueOfThree = {"00001111", "00110011", "01010101"};
        FunctionRoom three = new FunctionRoom(3);
        for (int v = 0; v < 3; v++) {
            Check.due("load(31, " + v + ")", three.load(31, v), 4);
            Check.due("register 31", Tables.of(three, 3, 31), dueOfThree[v]);
        }
        for (int variables = 1; variables <= 9; variables++) {
            FunctionRoom room = new FunctionRoom(variables);
            int all = 1 << variables;
            Check.due("load(0, -1)", room.load(0, -1), all);
            Check.due("after load(0, -1)", Tables.of(room, variables, 0), "1".repeat(all));
            Check.due("register 1", Tables.of(room, variables, 1), "0".repeat(all));
            Check.due("load(0, -2)", room.load(0, -2), 0);
            Check.due("after load(0, -2)", Tables.of(room, variables, 0), "0".repeat(all));
            for (int v = 0; v < variables; v++) {
                int run = 1 << (variables - 1 - v);
                String due = ("0".repeat(run) + "1".repeat(run)).repeat(1 << v);
                Check.due("load(5, " + v + ")", room.load(5, v), all / 2);
                Check.due(variables + " variables, after load(5, " + v + ")", Tables.of(room, variables, 5), due);
            }
            for (int what : noVariables(variables)) {
                if (what != -1 && what != -2) {
                    refused("load(5, " + what + ")", room, variables, x -> x.load(5, what));
                }
            }
            for (int r : NO_REGISTERS) {
                refused("load(" + r + ", 0)", room, variables, x -> x.load(r, 0));
                refused("load(" + r + ", -1)", room, variables, x -> x.load(r, -1));
            }
        }
    }

    private static void promise3() {
        String[] due = {"0001", "0111", "0110", "0010", "1101"};
        FunctionRoom room = new FunctionRoom(2);
        room.load(0, 0);
        room.load(1, 1);
        for (int op = 0; op < due.length; op++) {
            String call = "reckon(" + op + ", 2, 0, 1)";
            Check.due(call, room.reckon(op, 2, 0, 1), due[op].replace("0", "").length());
            Check.due("after " + call, Tables.of(room, 2, 2), due[op]);
        }
        int[] dueOfItself = {2, 2, 0, 0, 4};
        for (int op = 0; op < dueOfItself.length; op++) {
            Check.due("reckon(" + op + ", 3, 0, 0)", room.reckon(op, 3, 0, 0), dueOfItself[op]);
        }
        Check.due("register 0", Tables.of(room, 2, 0), "0011");
        Check.due("register 1", Tables.of(room, 2, 1), "0101");
        for (int op : new int[] {-1, 5, 6, Integer.MIN_VALUE, Integer.MAX_VALUE}) {
            refused("reckon(" + op + ", 2, 0, 1)", room, 2, x -> x.reckon(op, 2, 0, 1));
        }
        for (int r : NO_REGISTERS) {
            for (int op = 0; op < 5; op++) {
                int which = op;
                refused("reckon(" + op + ", " + r + ", 0, 1)", room, 2, x -> x.reckon(which, r, 0, 1));
                refused("reckon(" + op + ", 2, " + r + ", 1)", room, 2, x -> x.reckon(which, 2, r, 1));
                refused("reckon(" + op + ", 2, 0, " + r + ")", room, 2, x -> x.reckon(which, 2, 0, r));
            }
        }
    }

    private static void promise3AllPairs() {
        int[] dueBits = {0b1000, 0b1110, 0b0110, 0b0100, 0b1011};
        for (int variables = 1; variables <= 9; variables++) {
            FunctionRoom room = new FunctionRoom(variables);
            for (int v = 0; v < variables; v++) {
                room.load(v, v);
            }
            int last = variables - 1;
            for (int op = 0; op < dueBits.length; op++) {
                StringBuilder due = new StringBuilder();
                for (int number = 0; number < 1 << variables; number++) {
                    int pair = (number >> last & 1) * 2 + (number & 1);
                    due.append(dueBits[op] >> pair & 1);
                }
                room.reckon(op, 31, 0, last);
                Check.due(variables + " variables, op " + op, Tables.of(room, variables, 31), due.toString());
            }
        }
    }

    private static void promise4() {
        FunctionRoom room = roomOfThree();
        Check.due("not(5, 4)", room.not(5, 4), 3);
        Check.due("after not(5, 4)", Tables.of(room, 3, 5), "10101000");
        Check.due("register 4", Tables.of(room, 3, 4), "01010111");
        Check.due("not(5, 5)", room.not(5, 5), 5);
        Check.due("after not(5, 5)", Tables.of(room, 3, 5), "01010111");
        for (int variables = 1; variables <= 9; variables++) {
            FunctionRoom fresh = new FunctionRoom(variables);
            Check.due("not(0, 1)", fresh.not(0, 1), 1 << variables);
            Check.due("not(0, 0)", fresh.not(0, 0), 0);
        }
        for (int r : NO_REGISTERS) {
            refused("not(" + r + ", 4)", room, 3, x -> x.not(r, 4));
            refused("not(5, " + r + ")", room, 3, x -> x.not(5, r));
        }
    }

    private static void promise5() {
        FunctionRoom room = roomOfThree();
        String[] due = {"01010101", "01110111", "01010101", "01011111", "00000011", "11111111"};
        int[] many = {4, 6, 4, 6, 2, 8};
        for (int i = 0; i < due.length; i++) {
            int v = i / 2;
            boolean one = i % 2 == 1;
            String call = "with(5, 4, " + v + ", " + one + ")";
            Check.due(call, room.with(5, 4, v, one), many[i]);
            Check.due("after " + call, Tables.of(room, 3, 5), due[i]);
        }
        Check.due("register 4", Tables.of(room, 3, 4), "01010111");
        for (int variables = 1; variables <= 9; variables++) {
            FunctionRoom every = new FunctionRoom(variables);
            for (int v = 0; v < variables; v++) {
                every.load(0, v);
                Check.due("variable " + v + " with 1", every.with(1, 0, v, true), 1 << variables);
                Check.due("variable " + v + " with 0", every.with(1, 0, v, false), 0);
            }
        }
        for (int v : noVariables(3)) {
            refused("with(5, 4, " + v + ", true)", room, 3, x -> x.with(5, 4, v, true));
            refused("with(5, 4, " + v + ", false)", room, 3, x -> x.with(5, 4, v, false));
        }
        for (int r : NO_REGISTERS) {
            refused("with(" + r + ", 4, 0, true)", room, 3, x -> x.with(r, 4, 0, true));
            refused("with(5, " + r + ", 0, false)", room, 3, x -> x.with(5, r, 0, false));
        }
    }

    private static void promise6() {
        FunctionRoom room = roomOfThree();
        String[] due = {"01110111", "01010101", "01011111", "01010101", "11111111", "00000011"};
        int[] many = {6, 4, 6, 4, 8, 2};
        for (int i = 0; i < due.length; i++) {
            int v = i / 2;
            boolean all = i % 2 == 1;
            String call = "bind(5, 4, " + v + ", " + all + ")";
            Check.due(call, room.bind(5, 4, v, all), many[i]);
            Check.due("after " + call, Tables.of(room, 3, 5), due[i]);
        }
        Check.due("register 4", Tables.of(room, 3, 4), "01010111");
        for (int variables = 1; variables <= 9; variables++) {
            FunctionRoom every = new FunctionRoom(variables);
            for (int v = 0; v < variables; v++) {
                every.load(0, v);
                Check.due("variable " + v + " for some", every.bind(1, 0, v, false), 1 << variables);
                Check.due("variable " + v + " for both", every.bind(1, 0, v, true), 0);
            }
        }
        for (int v : noVariables(3)) {
            refused("bind(5, 4, " + v + ", true)", room, 3, x -> x.bind(5, 4, v, true));
            refused("bind(5, 4, " + v + ", false)", room, 3, x -> x.bind(5, 4, v, false));
        }
        for (int r : NO_REGISTERS) {
            refused("bind(" + r + ", 4, 0, true)", room, 3, x -> x.bind(r, 4, 0, true));
            refused("bind(5, " + r + ", 0, false)", room, 3, x -> x.bind(5, r, 0, false));
        }
    }

    private static void promise7() {
        FunctionRoom room = roomOfThree();
        Check.due("put(5, 4, 2, 0): (x0 and x1) or x0", room.put(5, 4, 2, 0), 4);
        Check.due("after put(5, 4, 2, 0)", Tables.of(room, 3, 5), "00001111");
        Check.due("put(5, 4, 0, 2): (x2 and x1) or x2", room.put(5, 4, 0, 2), 4);
        Check.due("after put(5, 4, 0, 2)", Tables.of(room, 3, 5), "01010101");
        room.not(6, 2);
        Check.due("put(5, 4, 1, 6): (x0 and not x2) or x2", room.put(5, 4, 1, 6), 6);
        Check.due("after put(5, 4, 1, 6)", Tables.of(room, 3, 5), "01011111");
        Check.due("put(5, 4, 2, 6): b may hold v itself", room.put(5, 4, 2, 6), 5);
        Check.due("after put(5, 4, 2, 6)", Tables.of(room, 3, 5), "10101011");
        Check.due("put(5, 4, 2, 2): a variable for itself", room.put(5, 4, 2, 2), 5);
        Check.due("after put(5, 4, 2, 2)", Tables.of(room, 3, 5), "01010111");
        Check.due("register 4", Tables.of(room, 3, 4), "01010111");
        for (int v : noVariables(3)) {
            refused("put(5, 4, " + v + ", 0)", room, 3, x -> x.put(5, 4, v, 0));
        }
        for (int r : NO_REGISTERS) {
            refused("put(" + r + ", 4, 0, 1)", room, 3, x -> x.put(r, 4, 0, 1));
            refused("put(5, " + r + ", 0, 1)", room, 3, x -> x.put(5, r, 0, 1));
            refused("put(5, 4, 0, " + r + ")", room, 3, x -> x.put(5, 4, 0, r));
        }
    }

    private static void promise8() {
        FunctionRoom room = roomOfThree();
        Check.due("many(4)", room.many(4), 5);
        Check.due("many(3)", room.many(3), 2);
        Check.due("many(31)", room.many(31), 0);
        FunctionRoom nine = new FunctionRoom(9);
        nine.load(31, -1);
        Check.due("many(31)", nine.many(31), 512);
        for (int r : NO_REGISTERS) {
            refused("many(" + r + ")", room, 3, x -> x.many(r));
        }
    }

    private static void promise9() {
        FunctionRoom room = roomOfThree();
        int[] due = {1, 3, 5, 6, 7};
        for (int k = 0; k < due.length; k++) {
            Check.due("nth(4, " + k + ")", room.nth(4, k), due[k]);
        }
        for (int k : new int[] {-1, -2, 5, 6, 8, Integer.MIN_VALUE, Integer.MAX_VALUE}) {
            Check.due("nth(4, " + k + ")", room.nth(4, k), FunctionRoom.NONE);
            Check.due("nth(31, " + k + ")", room.nth(31, k), FunctionRoom.NONE);
        }
        Check.due("nth(31, 0)", room.nth(31, 0), FunctionRoom.NONE);
        for (int r : NO_REGISTERS) {
            refused("nth(" + r + ", 0)", room, 3, x -> x.nth(r, 0));
            refused("nth(" + r + ", -1)", room, 3, x -> x.nth(r, -1));
        }
        FunctionRoom nine = new FunctionRoom(9);
        nine.load(0, -1);
        for (int k = 0; k < 512; k++) {
            Check.due("nth(0, " + k + ") of 1", nine.nth(0, k), k);
        }
        Check.due("nth(0, 512) of 1", nine.nth(0, 512), FunctionRoom.NONE);
    }

    private static void promise10() {
        FunctionRoom room = roomOfThree();
        String due = "01010111";
        for (int number = 0; number < 8; number++) {
            Check.due("value(4, " + number + ")", room.value(4, number), due.charAt(number) - '0');
        }
        for (int variables = 1; variables <= 9; variables++) {
            FunctionRoom full = new FunctionRoom(variables);
            full.load(0, -1);
            Check.due("value of the last", full.value(0, (1 << variables) - 1), 1);
            int[] none = {-1, -2, 1 << variables, (1 << variables) + 1, 512, 1024, Integer.MIN_VALUE, Integer.MAX_VALUE};
            for (int number : none) {
                refused("value(0, " + number + ")", full, variables, x -> x.value(0, number));
            }
        }
        for (int r : NO_REGISTERS) {
            refused("value(" + r + ", 0)", room, 3, x -> x.value(r, 0));
        }
    }

    private static void promise11() {
        FunctionRoom room = roomOfThree();
        Check.due("same(4, 4)", room.same(4, 4), true);
        Check.due("same(4, 3)", room.same(4, 3), false);
        Check.due("same(30, 31)", room.same(30, 31), true);
        room.not(5, 4);
        Check.due("same(4, 5)", room.same(4, 5), false);
        room.not(5, 5);
        Check.due("same(4, 5)", room.same(4, 5), true);
        Check.due("same(5, 4)", room.same(5, 4), true);
        for (int r : NO_REGISTERS) {
            Check.due("same(31, " + r + ")", room.same(31, r), false);
            Check.due("same(" + r + ", 31)", room.same(r, 31), false);
            Check.due("same(" + r + ", " + r + ")", room.same(r, r), false);
        }
        sameWhereOneAssignmentDiffers();
    }

    private static void sameWhereOneAssignmentDiffers() {
        for (int number = 0; number < 512; number++) {
            String table = "0".repeat(number) + "1" + "0".repeat(511 - number);
            FunctionRoom room = Tables.roomWith(9, table);
            Check.due("same(0, 3), apart at " + number, room.same(0, 3), false);
            Check.due("same(3, 0), apart at " + number, room.same(3, 0), false);
            Check.due("nth(0, 0), 1 at " + number, room.nth(0, 0), number);
        }
    }

    private static void promise12() {
        FunctionRoom room = roomOfThree();
        Check.due("size(4)", room.size(4), 3);
        Check.due("size(3)", room.size(3), 2);
        Check.due("size(0)", room.size(0), 1);
        Check.due("size(2)", room.size(2), 1);
        Check.due("size(31), always 0", room.size(31), 0);
        room.load(31, -1);
        Check.due("size(31), always 1", room.size(31), 0);
        room.reckon(2, 5, 0, 1);
        room.reckon(2, 5, 5, 2);
        Check.due("size(5), odd", room.size(5), 5);
        room.reckon(2, 6, 0, 2);
        Check.due("size(6), x0 apart from x2", room.size(6), 3);
        Check.due("register 4", Tables.of(room, 3, 4), "01010111");
        Check.due("size(4) again", room.size(4), 3);
        for (int r : NO_REGISTERS) {
            refused("size(" + r + ")", room, 3, x -> x.size(r));
        }
        Check.due("size where both halves share parts", Tables.roomWith(4, "0001011101110001").size(0), 6);
        Check.due("size of (x0 and x1) or (x2 and x3)", Tables.roomWith(4, "0001000100011111").size(0), 4);
    }

    private static void promise12ManyVariables() {
        for (int variables = 1; variables <= 9; variables++) {
            FunctionRoom odd = new FunctionRoom(variables);
            for (int v = 0; v < variables; v++) {
                odd.load(1, v);
                odd.reckon(2, 0, 0, 1);
            }
            Check.due("size of odd of " + variables, odd.size(0), 2 * variables - 1);
        }
        // The 64 blocks below the first six variables are 64 numbers: nearly all of them are parts of their own.
        StringBuilder table = new StringBuilder();
        int[] parts = new int[9];
        for (int block = 0; block < 64; block++) {
            int bits = block * 4 + 1 + block % 3;
            for (int place = 7; place >= 0; place--) {
                table.append(bits >> place & 1);
            }
        }
        int due = 0;
        for (int k = 0; k < 9; k++) {
            parts[k] = ModelTest.Model.partsOf(table.toString(), 9, k);
            due += parts[k];
        }
        Check.due("parts for k 6", parts[6] > 50, true);
        Check.due("size of a large function", Tables.roomWith(9, table.toString()).size(0), due);
    }

    private static void promise13() {
        FunctionRoom room = roomOfThree();
        Check.due("matters(0)", room.matters(0), 1);
        Check.due("matters(1)", room.matters(1), 2);
        Check.due("matters(2)", room.matters(2), 4);
        Check.due("matters(3)", room.matters(3), 3);
        Check.due("matters(4)", room.matters(4), 7);
        Check.due("matters(31)", room.matters(31), 0);
        room.load(31, -1);
        Check.due("matters(31)", room.matters(31), 0);
        room.reckon(2, 5, 4, 4);
        Check.due("matters(5)", room.matters(5), 0);
        for (int variables = 1; variables <= 9; variables++) {
            FunctionRoom every = new FunctionRoom(variables);
            for (int v = 0; v < variables; v++) {
                every.load(0, v);
                Check.due("matters of variable " + v, every.matters(0), 1 << v);
            }
            String once = "0".repeat((1 << variables) - 1) + "1";
            int all = (1 << variables) - 1;
            Check.due("matters of one assignment alone", Tables.roomWith(variables, once).matters(0), all);
        }
        for (int r : NO_REGISTERS) {
            refused("matters(" + r + ")", room, 3, x -> x.matters(r));
        }
    }

    /** With nine variables, as a function of many words is the one that is spoilt if it's overwritten while read. */
    private static void theTargetMayBeRead() {
        for (int v = 0; v < 9; v++) {
            FunctionRoom room = new FunctionRoom(9);
            room.load(1, (v + 1) % 9);
            room.load(2, v);
            room.reckon(3, 0, 2, 1);
            int other = v;
            inPlace(room, "with 0 of " + v, x -> x.with(3, 0, other, false), x -> x.with(0, 0, other, false));
            inPlace(room, "with 1 of " + v, x -> x.with(3, 0, other, true), x -> x.with(0, 0, other, true));
            inPlace(room, "bind some of " + v, x -> x.bind(3, 0, other, false), x -> x.bind(0, 0, other, false));
            inPlace(room, "bind all of " + v, x -> x.bind(3, 0, other, true), x -> x.bind(0, 0, other, true));
            inPlace(room, "put for a of " + v, x -> x.put(3, 0, other, 1), x -> x.put(0, 0, other, 1));
            inPlace(room, "put for b of " + v, x -> x.put(3, 2, other, 0), x -> x.put(0, 2, other, 0));
            room.not(4, 2);
            inPlace(room, "put of not v for v of " + v, x -> x.put(3, 0, other, 4), x -> x.put(0, 0, other, 4));
            inPlace(room, "put for both of " + v, x -> x.put(3, 0, other, 0), x -> x.put(0, 0, other, 0));
        }
    }

    private static void inPlace(FunctionRoom room, String what, ToIntFunction<FunctionRoom> aside,
            ToIntFunction<FunctionRoom> onItself) {
        room.reckon(3, 0, 2, 1);
        int due = aside.applyAsInt(room);
        Check.due(what, onItself.applyAsInt(room), due);
        Check.due(what + ", the same", room.same(0, 3), true);
    }
}
