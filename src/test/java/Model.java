import java.util.HashSet;
import java.util.Set;

/** Follows the document word by word: a register is a row of values, that of assignment 0 first. */
final class Model {
    private final int variables;
    private final int all;
    private final boolean[][] rows;

    Model(int asked) {
        variables = asked < 1 ? 1 : asked > 9 ? 9 : asked;
        all = 1 << variables;
        rows = new boolean[32][all];
    }

    int variables() {
        return variables;
    }

    /** A text of 0 and 1, the value of assignment 0 first. */
    String table(int r) {
        StringBuilder text = new StringBuilder();
        for (boolean one : rows[r]) {
            text.append(one ? '1' : '0');
        }
        return text.toString();
    }

    int load(int r, int what) {
        if (noRegister(r) || what != -2 && what != -1 && noVariable(what)) {
            return -1;
        }
        boolean[] row = new boolean[all];
        for (int x = 0; x < all; x++) {
            row[x] = what == -1 || what >= 0 && valueOf(what, x);
        }
        return become(r, row);
    }

    int reckon(int op, int r, int a, int b) {
        if (op < 0 || op > 4 || noRegister(r) || noRegister(a) || noRegister(b)) {
            return -1;
        }
        boolean[] row = new boolean[all];
        for (int x = 0; x < all; x++) {
            boolean p = rows[a][x];
            boolean q = rows[b][x];
            boolean[] answers = {p && q, p || q, p != q, p && !q, !p || q};
            row[x] = answers[op];
        }
        return become(r, row);
    }

    int not(int r, int a) {
        if (noRegister(r) || noRegister(a)) {
            return -1;
        }
        boolean[] row = new boolean[all];
        for (int x = 0; x < all; x++) {
            row[x] = !rows[a][x];
        }
        return become(r, row);
    }

    int with(int r, int a, int v, boolean one) {
        if (noRegister(r) || noRegister(a) || noVariable(v)) {
            return -1;
        }
        boolean[] row = new boolean[all];
        for (int x = 0; x < all; x++) {
            row[x] = rows[a][numberWith(v, one, x)];
        }
        return become(r, row);
    }

    int bind(int r, int a, int v, boolean both) {
        if (noRegister(r) || noRegister(a) || noVariable(v)) {
            return -1;
        }
        boolean[] row = new boolean[all];
        for (int x = 0; x < all; x++) {
            boolean for0 = rows[a][numberWith(v, false, x)];
            boolean for1 = rows[a][numberWith(v, true, x)];
            row[x] = both ? for0 && for1 : for0 || for1;
        }
        return become(r, row);
    }

    int put(int r, int a, int v, int b) {
        if (noRegister(r) || noRegister(a) || noVariable(v) || noRegister(b)) {
            return -1;
        }
        boolean[] row = new boolean[all];
        for (int x = 0; x < all; x++) {
            row[x] = rows[a][numberWith(v, rows[b][x], x)];
        }
        return become(r, row);
    }

    int many(int r) {
        if (noRegister(r)) {
            return -1;
        }
        int ones = 0;
        for (boolean one : rows[r]) {
            ones += one ? 1 : 0;
        }
        return ones;
    }

    int nth(int r, int k) {
        if (noRegister(r)) {
            return -1;
        }
        int before = 0;
        for (int x = 0; x < all; x++) {
            if (rows[r][x] && before++ == k) {
                return x;
            }
        }
        return -2;
    }

    int value(int r, int assignment) {
        if (noRegister(r) || assignment < 0 || assignment > all - 1) {
            return -1;
        }
        return rows[r][assignment] ? 1 : 0;
    }

    boolean same(int a, int b) {
        return !noRegister(a) && !noRegister(b) && table(a).equals(table(b));
    }

    int size(int r) {
        if (noRegister(r)) {
            return -1;
        }
        int parts = 0;
        for (int k = 0; k < variables; k++) {
            parts += partsOf(table(r), 1 << (variables - k));
        }
        return parts;
    }

    int matters(int r) {
        if (noRegister(r)) {
            return -1;
        }
        int bits = 0;
        for (int v = 0; v < variables; v++) {
            for (int x = 0; x < all; x++) {
                if (rows[r][numberWith(v, false, x)] != rows[r][numberWith(v, true, x)]) {
                    bits |= 1 << v;
                }
            }
        }
        return bits;
    }

    private static int partsOf(String table, int length) {
        Set<String> found = new HashSet<>();
        for (int start = 0; start < table.length(); start += length) {
            String for0 = table.substring(start, start + length / 2);
            String for1 = table.substring(start + length / 2, start + length);
            if (!for0.equals(for1)) {
                found.add(for0 + for1);
            }
        }
        return found.size();
    }

    private static boolean noRegister(int r) {
        return r < 0 || r > 31;
    }

    private boolean noVariable(int v) {
        return v < 0 || v > variables - 1;
    }

    /** What variable v adds to an assignment's number: of three variables 4, 2 and 1. */
    private int weight(int v) {
        int weight = all / 2;
        for (int i = 0; i < v; i++) {
            weight /= 2;
        }
        return weight;
    }

    private boolean valueOf(int v, int number) {
        return number / weight(v) % 2 == 1;
    }

    private int numberWith(int v, boolean one, int number) {
        int without = valueOf(v, number) ? number - weight(v) : number;
        return one ? without + weight(v) : without;
    }

    private int become(int r, boolean[] row) {
        rows[r] = row;
        return many(r);
    }
}
