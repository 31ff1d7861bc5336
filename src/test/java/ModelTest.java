import java.util.HashSet;
import java.util.Random;
import java.util.Set;

/** Runs of 512 calls, and many single functions, against a model that follows the document word by word. */
public final class ModelTest {
    private static final int CALLS = 512;
    private static final int RUNS_EACH = 40;
    private static final int TABLES_EACH = 20;

    public static void main(String[] args) {
        for (int variables = 1; variables <= 9; variables++) {
            for (int seed = 0; seed < RUNS_EACH; seed++) {
                new Run(variables, seed).go();
            }
        }
        for (int variables = 1; variables <= 3; variables++) {
            allFunctions(variables);
        }
        for (int variables = 4; variables <= 9; variables++) {
            someTables(variables);
        }
        Check.end();
    }

    private static void allFunctions(int variables) {
        for (int which = 0; which < 1 << (1 << variables); which++) {
            oneFunction(variables, Tables.numbered(variables, which));
        }
    }

    /** Runs of calls seldom reach functions with many parts; nearly all tables are such. */
    private static void someTables(int variables) {
        Random random = new Random(variables);
        for (int i = 0; i < TABLES_EACH; i++) {
            StringBuilder table = new StringBuilder();
            for (int number = 0; number < 1 << variables; number++) {
                table.append(random.nextInt(2));
            }
            oneFunction(variables, table.toString());
        }
    }

    private static void oneFunction(int variables, String table) {
        FunctionRoom room = Tables.roomWith(variables, table);
        Model model = new Model(variables);
        model.tables[0] = table;
        Check.due("the table", Tables.of(room, variables, 0), table);
        Check.due("size of " + table, room.size(0), model.size(0));
        Check.due("matters of " + table, room.matters(0), model.matters(0));
        Check.due("many of " + table, room.many(0), model.many(0));
        for (int k = -1; k <= table.length(); k++) {
            Check.due("nth " + k + " of " + table, room.nth(0, k), model.nth(0, k));
        }
        for (int v = 0; v < variables; v++) {
            narrowed(variables, room, model, v, false);
            narrowed(variables, room, model, v, true);
            Check.due("put of " + table, room.put(4, 0, v, 3), model.put(4, 0, v, 3));
            Check.due("after put of " + table, Tables.of(room, variables, 4), model.tables[4]);
        }
    }

    private static void narrowed(int variables, FunctionRoom room, Model model, int v, boolean flag) {
        String what = v + " " + flag + " of " + model.tables[0];
        Check.due("with " + what, room.with(3, 0, v, flag), model.with(3, 0, v, flag));
        Check.due("after with " + what, Tables.of(room, variables, 3), model.tables[3]);
        Check.due("size after with " + what, room.size(3), model.size(3));
        Check.due("matters after with " + what, room.matters(3), model.matters(3));
        Check.due("bind " + what, room.bind(3, 0, v, flag), model.bind(3, 0, v, flag));
        Check.due("after bind " + what, Tables.of(room, variables, 3), model.tables[3]);
    }

    /** A register is a text of 0 and 1, the value of assignment 0 first. */
    static final class Model {
        final String[] tables = new String[32];
        private final int variables;
        private final int all;

        Model(int variables) {
            this.variables = variables;
            all = 1 << variables;
            for (int r = 0; r < tables.length; r++) {
                tables[r] = "0".repeat(all);
            }
        }

        private static boolean noRegister(int r) {
            return r < 0 || r > 31;
        }

        private boolean noVariable(int v) {
            return v < 0 || v > variables - 1;
        }

        private boolean valueOf(int v, int number) {
            String digits = Integer.toBinaryString(all + number).substring(1);
            return digits.charAt(v) == '1';
        }

        private int numberWith(int v, boolean one, int number) {
            char[] digits = Integer.toBinaryString(all + number).substring(1).toCharArray();
            digits[v] = one ? '1' : '0';
            return Integer.parseInt(new String(digits), 2);
        }

        private boolean is1(int r, int number) {
            return tables[r].charAt(number) == '1';
        }

        private int become(int r, boolean[] values) {
            StringBuilder text = new StringBuilder();
            for (boolean one : values) {
                text.append(one ? '1' : '0');
            }
            tables[r] = text.toString();
            return many(r);
        }

        int load(int r, int what) {
            if (noRegister(r) || what != -2 && what != -1 && noVariable(what)) {
                return -1;
            }
            boolean[] values = new boolean[all];
            for (int x = 0; x < all; x++) {
                values[x] = what == -1 || what >= 0 && valueOf(what, x);
            }
            return become(r, values);
        }

        int reckon(int op, int r, int a, int b) {
            if (op < 0 || op > 4 || noRegister(r) || noRegister(a) || noRegister(b)) {
                return -1;
            }
            boolean[] values = new boolean[all];
            for (int x = 0; x < all; x++) {
                boolean p = is1(a, x);
                boolean q = is1(b, x);
                boolean[] answers = {p && q, p || q, p != q, p && !q, !p || q};
                values[x] = answers[op];
            }
            return become(r, values);
        }

        int not(int r, int a) {
            if (noRegister(r) || noRegister(a)) {
                return -1;
            }
            boolean[] values = new boolean[all];
            for (int x = 0; x < all; x++) {
                values[x] = !is1(a, x);
            }
            return become(r, values);
        }

        int with(int r, int a, int v, boolean one) {
            if (noRegister(r) || noRegister(a) || noVariable(v)) {
                return -1;
            }
            boolean[] values = new boolean[all];
            for (int x = 0; x < all; x++) {
                values[x] = is1(a, numberWith(v, one, x));
            }
            return become(r, values);
        }

        int bind(int r, int a, int v, boolean both) {
            if (noRegister(r) || noRegister(a) || noVariable(v)) {
                return -1;
            }
            boolean[] values = new boolean[all];
            for (int x = 0; x < all; x++) {
                boolean for0 = is1(a, numberWith(v, false, x));
                boolean for1 = is1(a, numberWith(v, true, x));
                values[x] = both ? for0 && for1 : for0 || for1;
            }
            return become(r, values);
        }

        int put(int r, int a, int v, int b) {
            if (noRegister(r) || noRegister(a) || noVariable(v) || noRegister(b)) {
                return -1;
            }
            boolean[] values = new boolean[all];
            for (int x = 0; x < all; x++) {
                values[x] = is1(a, numberWith(v, is1(b, x), x));
            }
            return become(r, values);
        }

        int many(int r) {
            return noRegister(r) ? -1 : tables[r].replace("0", "").length();
        }

        int nth(int r, int k) {
            if (noRegister(r)) {
                return -1;
            }
            if (k < 0) {
                return -2;
            }
            int at = tables[r].indexOf('1');
            for (int i = 0; i < k && at >= 0; i++) {
                at = tables[r].indexOf('1', at + 1);
            }
            return at < 0 ? -2 : at;
        }

        int value(int r, int assignment) {
            if (noRegister(r) || assignment < 0 || assignment > all - 1) {
                return -1;
            }
            return tables[r].charAt(assignment) - '0';
        }

        boolean same(int a, int b) {
            return !noRegister(a) && !noRegister(b) && tables[a].equals(tables[b]);
        }

        int size(int r) {
            if (noRegister(r)) {
                return -1;
            }
            int parts = 0;
            for (int k = 0; k < variables; k++) {
                parts += partsOf(tables[r], variables, k);
            }
            return parts;
        }

        static int partsOf(String table, int variables, int k) {
            int length = 1 << (variables - k);
            Set<String> found = new HashSet<>();
            for (int start = 0; start < table.length(); start += length) {
                String for0 = table.substring(start, start + length / 2);
                String for1 = table.substring(start + length / 2, start + length);
                if (!for0.equals(for1)) {
                    found.add(for0 + for1);
                }
            }
            return found.size();
        }

        int matters(int r) {
            if (noRegister(r)) {
                return -1;
            }
            int bits = 0;
            for (int v = 0; v < variables; v++) {
                for (int x = 0; x < all; x++) {
                    if (is1(r, numberWith(v, false, x)) != is1(r, numberWith(v, true, x))) {
                        bits |= 1 << v;
                    }
                }
            }
            return bits;
        }
    }

    /** One run: the seed is fixed, so that a run that fails can be made again. */
    private static final class Run {
        private final int variables;
        private final int seed;
        private final Random random;
        private final FunctionRoom room;
        private final Model model;

        Run(int variables, int seed) {
            this.variables = variables;
            this.seed = seed;
            random = new Random(1000L * variables + seed);
            room = new FunctionRoom(variables);
            model = new Model(variables);
        }

        void go() {
            for (int call = 0; call < CALLS; call++) {
                step(call < 20 ? 0 : random.nextInt(24));
            }
            for (int r = 0; r < Tables.REGISTERS; r++) {
                Check.due("run " + variables + "/" + seed + " register " + r, Tables.of(room, variables, r),
                        model.tables[r]);
            }
        }

        private int wild() {
            int[] numbers = {-1, -2, -3, 9, 10, 31, 32, 33, 64, 511, 512, Integer.MAX_VALUE, Integer.MIN_VALUE};
            return numbers[random.nextInt(numbers.length)];
        }

        private int register() {
            return random.nextInt(60) == 0 ? wild() : random.nextInt(random.nextBoolean() ? 12 : 32);
        }

        private int variable() {
            return random.nextInt(40) == 0 ? wild() : random.nextInt(variables);
        }

        private int operation() {
            return random.nextInt(40) == 0 ? wild() : random.nextBoolean() ? 2 : random.nextInt(5);
        }

        private void due(String call, long got, long want) {
            Check.due("run " + variables + "/" + seed + " " + call, got, want);
        }

        private void step(int kind) {
            int r = register();
            int a = register();
            int b = register();
            int v = variable();
            boolean flag = random.nextBoolean();
            if (kind <= 2) {
                due("load " + r + " " + v, room.load(r, v), model.load(r, v));
            } else if (kind <= 10) {
                int op = operation();
                due("reckon " + op + " " + r + " " + a + " " + b, room.reckon(op, r, a, b), model.reckon(op, r, a, b));
            } else if (kind == 11) {
                due("not " + r + " " + a, room.not(r, a), model.not(r, a));
            } else if (kind == 12) {
                due("with " + r + " " + a + " " + v + " " + flag, room.with(r, a, v, flag), model.with(r, a, v, flag));
            } else if (kind == 13) {
                due("bind " + r + " " + a + " " + v + " " + flag, room.bind(r, a, v, flag), model.bind(r, a, v, flag));
            } else if (kind <= 17) {
                due("put " + r + " " + a + " " + v + " " + b, room.put(r, a, v, b), model.put(r, a, v, b));
            } else {
                ask(kind, r, a);
            }
        }

        private void ask(int kind, int r, int a) {
            if (kind == 18) {
                due("many " + r, room.many(r), model.many(r));
            } else if (kind == 19) {
                int k = random.nextInt(20) == 0 ? wild() : random.nextInt(1 << variables);
                due("nth " + r + " " + k, room.nth(r, k), model.nth(r, k));
            } else if (kind == 20) {
                int x = random.nextInt(20) == 0 ? wild() : random.nextInt(1 << variables);
                due("value " + r + " " + x, room.value(r, x), model.value(r, x));
            } else if (kind == 21) {
                due("same " + r + " " + a, room.same(r, a) ? 1 : 0, model.same(r, a) ? 1 : 0);
            } else if (kind == 22) {
                due("size " + r, room.size(r), model.size(r));
            } else {
                due("matters " + r, room.matters(r), model.matters(r));
            }
        }
    }
}
