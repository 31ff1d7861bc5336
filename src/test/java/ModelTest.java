import java.util.Random;

/** Long runs of calls, and many single functions, against the model. */
public final class ModelTest {
    private static final int RUNS_EACH = 40;
    private static final int TABLES_EACH = 20;

    /** So many calls are left for reading the registers when a run of this length has ended. */
    private static final int CALLS_BEFORE_READING = Room.CALLS / 2;

    public static void main(String[] args) {
        for (int variables = 1; variables <= 9; variables++) {
            for (int seed = 0; seed < RUNS_EACH; seed++) {
                new Run(variables, 2 * seed).go(Room.CALLS);
                new Run(variables, 2 * seed + 1).go(CALLS_BEFORE_READING).holds();
            }
        }
        for (int variables = 1; variables <= 3; variables++) {
            allFunctions(variables);
        }
        for (int variables = 4; variables <= 9; variables++) {
            someTables(variables);
        }
        Check.end();
    }

    private static void allFunctions(int variables) {
        for (int which = 0; which < 1 << (1 << variables); which++) {
            oneFunction(variables, Tables.numbered(variables, which));
        }
    }

    /** Runs of calls seldom reach functions with many parts; nearly all tables are such. */
    private static void someTables(int variables) {
        Random random = new Random(variables);
        for (int i = 0; i < TABLES_EACH; i++) {
            StringBuilder table = new StringBuilder();
            for (int number = 0; number < 1 << variables; number++) {
                table.append(random.nextInt(2));
            }
            oneFunction(variables, table.toString());
        }
    }

    private static void oneFunction(int variables, String table) {
        for (int v = 0; v < variables; v++) {
            Room room = Tables.roomWith(variables, table);
            room.size(31);
            room.matters(31);
            int many = room.many(31);
            for (int k : new int[] {-1, 0, 1, many / 2, many - 1, many, many + 1}) {
                room.nth(31, k);
            }
            room.with(0, 31, v, false);
            room.with(1, 31, v, true);
            room.bind(2, 31, v, false);
            room.bind(3, 31, v, true);
            room.put(4, 31, v, 3 - v % 4);
            for (int r = 0; r <= 4; r++) {
                room.size(r);
                room.matters(r);
            }
            for (int r = 0; r <= 4; r++) {
                room.holds(r);
            }
            Check.due("the table", room.table(31), table);
        }
    }

    /** One run: the seed is fixed, so that a run that fails can be made again. */
    private static final class Run {
        private final Random random;
        private final Room room;

        Run(int variables, int seed) {
            random = new Random(1000L * variables + seed);
            room = new Room(variables);
        }

        Room go(int calls) {
            for (int call = 0; call < calls; call++) {
                step(call < 20 ? 0 : random.nextInt(24));
            }
            return room;
        }

        private int wild() {
            int[] numbers = {-1, -2, -3, 9, 10, 31, 32, 33, 64, 511, 512, Integer.MAX_VALUE, Integer.MIN_VALUE};
            return numbers[random.nextInt(numbers.length)];
        }

        private int register() {
            return random.nextInt(60) == 0 ? wild() : random.nextInt(random.nextBoolean() ? 12 : 32);
        }

        private int variable() {
            return random.nextInt(40) == 0 ? wild() : random.nextInt(room.variables());
        }

        private int assignment() {
            return random.nextInt(20) == 0 ? wild() : random.nextInt(room.assignments());
        }

        private int operation() {
            return random.nextInt(40) == 0 ? wild() : random.nextBoolean() ? 2 : random.nextInt(5);
        }

        private void step(int kind) {
            int r = register();
            if (kind <= 2) {
                room.load(r, variable());
            } else if (kind <= 10) {
                room.reckon(operation(), r, register(), register());
            } else if (kind == 11) {
                room.not(r, register());
            } else if (kind == 12) {
                room.with(r, register(), variable(), random.nextBoolean());
            } else if (kind == 13) {
                room.bind(r, register(), variable(), random.nextBoolean());
            } else if (kind <= 17) {
                room.put(r, register(), variable(), register());
            } else {
                ask(kind, r);
            }
        }

        private void ask(int kind, int r) {
            if (kind == 18) {
                room.many(r);
            } else if (kind == 19) {
                room.nth(r, assignment());
            } else if (kind == 20) {
                room.value(r, assignment());
            } else if (kind == 21) {
                room.same(r, register());
            } else if (kind == 22) {
                room.size(r);
            } else {
                room.matters(r);
            }
        }
    }
}
