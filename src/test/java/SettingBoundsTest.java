/** The boundary cases of the calls that set a register: promises 2 to 7. Each case has an object of its own. */
public final class SettingBoundsTest {
    private static final int[] TARGETS = {
        Bounds.FIRST_REGISTER, Bounds.LAST_REGISTER, Bounds.FULL, Bounds.EMPTY, Bounds.MIXED};
    private static final boolean[] FLAGS = {false, true};

    /** For op 0 to 4, what it is of (0, 0), (0, 1), (1, 0) and (1, 1). */
    private static final int[][] OF_CONSTANTS = {{0, 0, 0, 1}, {0, 1, 1, 1}, {0, 1, 1, 0}, {0, 0, 1, 0}, {1, 1, 0, 1}};

    public static void main(String[] args) {
        for (int variables = 1; variables <= Bounds.MOST_VARIABLES; variables++) {
            loadTakes(variables);
            loadRefusesWhat(variables);
            loadRefusesRegisters(variables);
            reckonOfConstants(variables);
            reckonTakesRegisters(variables);
            reckonRefusesOps(variables);
            reckonRefusesRegisters(variables);
            notOfConstants(variables);
            notTakesRegisters(variables);
            notRefusesRegisters(variables);
            withAndBindOfConstants(variables);
            withAndBindOfTheVariable(variables);
            withAndBindTakeRegisters(variables);
            withAndBindRefuseVariables(variables);
            withAndBindRefuseRegisters(variables);
            putOfConstants(variables);
            putOfTheVariable(variables);
            putTakesRegisters(variables);
            putRefusesVariables(variables);
            putRefusesRegisters(variables);
        }
        Check.end();
    }

    private static void loadTakes(int variables) {
        int all = 1 << variables;
        for (int r = Bounds.FIRST_REGISTER; r <= Bounds.LAST_REGISTER; r++) {
            int target = r;
            Bounds.answers(variables, 0, x -> x.load(target, -2));
            Bounds.answers(variables, all, x -> x.load(target, -1));
            Bounds.answers(variables, all / 2, x -> x.load(target, 0));
            Bounds.answers(variables, all / 2, x -> x.load(target, variables - 1));
        }
    }

    /** The first below is -3, as -1 and -2 are taken; 254 and 255 would be these if cut to a byte. */
    private static void loadRefusesWhat(int variables) {
        for (int r : TARGETS) {
            for (int what : new int[] {-3, -4, 254, 255, 65534, 65535, Integer.MAX_VALUE - 1}) {
                Bounds.refused(variables, x -> x.load(r, what));
            }
            for (int what : Bounds.noVariables(variables)) {
                if (what != -1 && what != -2) {
                    Bounds.refused(variables, x -> x.load(r, what));
                }
            }
        }
    }

    private static void loadRefusesRegisters(int variables) {
        for (int r : Bounds.noRegisters()) {
            Bounds.refused(variables, x -> x.load(r, -2));
            Bounds.refused(variables, x -> x.load(r, -1));
            Bounds.refused(variables, x -> x.load(r, 0));
            Bounds.refused(variables, x -> x.load(r, variables - 1));
            Bounds.refused(variables, x -> x.load(r, variables));
            Bounds.refused(variables, x -> x.load(r, -3));
        }
    }

    private static void reckonOfConstants(int variables) {
        int[] constants = {Bounds.EMPTY, Bounds.FULL};
        for (int op = 0; op < OF_CONSTANTS.length; op++) {
            for (int pair = 0; pair < 4; pair++) {
                int which = op;
                int a = constants[pair / 2];
                int b = constants[pair % 2];
                int due = OF_CONSTANTS[op][pair] << variables;
                for (int r : TARGETS) {
                    Bounds.answers(variables, due, x -> x.reckon(which, r, a, b));
                }
            }
        }
    }

    private static void reckonTakesRegisters(int variables) {
        for (int r = Bounds.FIRST_REGISTER; r <= Bounds.LAST_REGISTER; r++) {
            int each = r;
            int op = r % 5;
            Bounds.taken(variables, x -> x.reckon(op, each, 0, 31));
            Bounds.taken(variables, x -> x.reckon(op, Bounds.MIXED, each, 31));
            Bounds.taken(variables, x -> x.reckon(op, Bounds.MIXED, 0, each));
            Bounds.taken(variables, x -> x.reckon(op, each, each, 31));
            Bounds.taken(variables, x -> x.reckon(op, each, 0, each));
            Bounds.taken(variables, x -> x.reckon(op, each, each, each));
        }
    }

    private static void reckonRefusesOps(int variables) {
        for (int op : new int[] {-1, 5, Integer.MIN_VALUE, Integer.MAX_VALUE, -2, -5, 6, 7, 8, 10, 256, 65536}) {
            for (int r : TARGETS) {
                Bounds.refused(variables, x -> x.reckon(op, r, 0, 31));
                Bounds.refused(variables, x -> x.reckon(op, r, Bounds.FULL, Bounds.EMPTY));
            }
            Bounds.refused(variables, x -> x.reckon(op, 32, -1, 32));
        }
    }

    private static void reckonRefusesRegisters(int variables) {
        for (int no : Bounds.noRegisters()) {
            for (int op = 0; op < OF_CONSTANTS.length; op++) {
                int which = op;
                Bounds.refused(variables, x -> x.reckon(which, no, 0, 31));
                Bounds.refused(variables, x -> x.reckon(which, Bounds.MIXED, no, 31));
                Bounds.refused(variables, x -> x.reckon(which, Bounds.MIXED, 0, no));
                Bounds.refused(variables, x -> x.reckon(which, no, no, no));
            }
        }
    }

    private static void notOfConstants(int variables) {
        for (int r : TARGETS) {
            Bounds.answers(variables, 1 << variables, x -> x.not(r, Bounds.EMPTY));
            Bounds.answers(variables, 0, x -> x.not(r, Bounds.FULL));
        }
    }

    private static void notTakesRegisters(int variables) {
        for (int r = Bounds.FIRST_REGISTER; r <= Bounds.LAST_REGISTER; r++) {
            int each = r;
            Bounds.taken(variables, x -> x.not(each, Bounds.MIXED));
            Bounds.taken(variables, x -> x.not(Bounds.MIXED, each));
            Bounds.taken(variables, x -> x.not(each, each));
        }
    }

    private static void notRefusesRegisters(int variables) {
        for (int no : Bounds.noRegisters()) {
            Bounds.refused(variables, x -> x.not(no, 0));
            Bounds.refused(variables, x -> x.not(no, 31));
            Bounds.refused(variables, x -> x.not(0, no));
            Bounds.refused(variables, x -> x.not(31, no));
            Bounds.refused(variables, x -> x.not(no, no));
        }
    }

    private static void withAndBindOfConstants(int variables) {
        int all = 1 << variables;
        for (int v = 0; v < variables; v++) {
            int each = v;
            for (boolean flag : FLAGS) {
                Bounds.answers(variables, all, x -> x.with(Bounds.MIXED, Bounds.FULL, each, flag));
                Bounds.answers(variables, 0, x -> x.with(Bounds.MIXED, Bounds.EMPTY, each, flag));
                Bounds.answers(variables, all, x -> x.bind(Bounds.MIXED, Bounds.FULL, each, flag));
                Bounds.answers(variables, 0, x -> x.bind(Bounds.MIXED, Bounds.EMPTY, each, flag));
            }
        }
    }

    /** Register 0 is the first variable, 31 the last. */
    private static void withAndBindOfTheVariable(int variables) {
        int all = 1 << variables;
        int last = variables - 1;
        for (int r : TARGETS) {
            Bounds.answers(variables, 0, x -> x.with(r, 0, 0, false));
            Bounds.answers(variables, all, x -> x.with(r, 0, 0, true));
            Bounds.answers(variables, 0, x -> x.with(r, 31, last, false));
            Bounds.answers(variables, all, x -> x.with(r, 31, last, true));
            Bounds.answers(variables, all, x -> x.bind(r, 0, 0, false));
            Bounds.answers(variables, 0, x -> x.bind(r, 0, 0, true));
            Bounds.answers(variables, all, x -> x.bind(r, 31, last, false));
            Bounds.answers(variables, 0, x -> x.bind(r, 31, last, true));
        }
    }

    private static void withAndBindTakeRegisters(int variables) {
        for (int r = Bounds.FIRST_REGISTER; r <= Bounds.LAST_REGISTER; r++) {
            int each = r;
            int v = r % variables;
            for (boolean flag : FLAGS) {
                Bounds.taken(variables, x -> x.with(each, Bounds.MIXED, v, flag));
                Bounds.taken(variables, x -> x.with(Bounds.MIXED, each, v, flag));
                Bounds.taken(variables, x -> x.with(each, each, v, flag));
                Bounds.taken(variables, x -> x.bind(each, Bounds.MIXED, v, flag));
                Bounds.taken(variables, x -> x.bind(Bounds.MIXED, each, v, flag));
                Bounds.taken(variables, x -> x.bind(each, each, v, flag));
            }
        }
    }

    private static void withAndBindRefuseVariables(int variables) {
        for (int no : Bounds.noVariables(variables)) {
            for (boolean flag : FLAGS) {
                for (int r : TARGETS) {
                    Bounds.refused(variables, x -> x.with(r, 0, no, flag));
                    Bounds.refused(variables, x -> x.with(r, Bounds.FULL, no, flag));
                    Bounds.refused(variables, x -> x.bind(r, 0, no, flag));
                    Bounds.refused(variables, x -> x.bind(r, Bounds.FULL, no, flag));
                }
            }
        }
    }

    private static void withAndBindRefuseRegisters(int variables) {
        for (int no : Bounds.noRegisters()) {
            for (boolean flag : FLAGS) {
                for (int v : new int[] {0, variables - 1, variables, -1}) {
                    Bounds.refused(variables, x -> x.with(no, 0, v, flag));
                    Bounds.refused(variables, x -> x.with(Bounds.MIXED, no, v, flag));
                    Bounds.refused(variables, x -> x.with(no, no, v, flag));
                    Bounds.refused(variables, x -> x.bind(no, 0, v, flag));
                    Bounds.refused(variables, x -> x.bind(Bounds.MIXED, no, v, flag));
                    Bounds.refused(variables, x -> x.bind(no, no, v, flag));
                }
            }
        }
    }

    private static void putOfConstants(int variables) {
        int all = 1 << variables;
        for (int r : TARGETS) {
            for (int v = 0; v < variables; v++) {
                int each = v;
                Bounds.answers(variables, all, x -> x.put(r, Bounds.FULL, each, Bounds.MIXED));
                Bounds.answers(variables, 0, x -> x.put(r, Bounds.EMPTY, each, Bounds.MIXED));
                Bounds.taken(variables, x -> x.put(r, Bounds.MIXED, each, Bounds.FULL));
                Bounds.taken(variables, x -> x.put(r, Bounds.MIXED, each, Bounds.EMPTY));
            }
        }
    }

    /** What stands in place of a variable is all that is left of it: register 0 is the first variable, 31 the last. */
    private static void putOfTheVariable(int variables) {
        int all = 1 << variables;
        int last = variables - 1;
        for (int r : TARGETS) {
            Bounds.answers(variables, all, x -> x.put(r, 0, 0, Bounds.FULL));
            Bounds.answers(variables, 0, x -> x.put(r, 0, 0, Bounds.EMPTY));
            Bounds.answers(variables, all / 2, x -> x.put(r, 0, 0, 0));
            Bounds.answers(variables, all / 2, x -> x.put(r, 0, 0, 31));
            Bounds.answers(variables, all, x -> x.put(r, 31, last, Bounds.FULL));
            Bounds.answers(variables, 0, x -> x.put(r, 31, last, Bounds.EMPTY));
            Bounds.answers(variables, all / 2, x -> x.put(r, 31, last, 31));
            Bounds.answers(variables, all / 2, x -> x.put(r, 31, last, 0));
        }
    }

    private static void putTakesRegisters(int variables) {
        for (int r = Bounds.FIRST_REGISTER; r <= Bounds.LAST_REGISTER; r++) {
            int each = r;
            int v = r % variables;
            Bounds.taken(variables, x -> x.put(each, Bounds.MIXED, v, 0));
            Bounds.taken(variables, x -> x.put(Bounds.MIXED, each, v, 0));
            Bounds.taken(variables, x -> x.put(Bounds.MIXED, 0, v, each));
            Bounds.taken(variables, x -> x.put(each, each, v, Bounds.MIXED));
            Bounds.taken(variables, x -> x.put(each, Bounds.MIXED, v, each));
            Bounds.taken(variables, x -> x.put(each, each, v, each));
        }
    }

    private static void putRefusesVariables(int variables) {
        for (int no : Bounds.noVariables(variables)) {
            for (int r : TARGETS) {
                Bounds.refused(variables, x -> x.put(r, 0, no, 31));
                Bounds.refused(variables, x -> x.put(r, Bounds.MIXED, no, Bounds.FULL));
                Bounds.refused(variables, x -> x.put(r, Bounds.FULL, no, Bounds.EMPTY));
            }
        }
    }

    private static void putRefusesRegisters(int variables) {
        for (int no : Bounds.noRegisters()) {
            for (int v : new int[] {0, variables - 1, variables, -1}) {
                Bounds.refused(variables, x -> x.put(no, 0, v, 31));
                Bounds.refused(variables, x -> x.put(Bounds.MIXED, no, v, 31));
                Bounds.refused(variables, x -> x.put(Bounds.MIXED, 0, v, no));
                Bounds.refused(variables, x -> x.put(no, no, v, no));
            }
        }
    }
}
