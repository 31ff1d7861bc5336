/** Functions of up to nine variables that are 0 or 1, in 32 registers. */
public final class FunctionRoom {
    public static final int REFUSED = -1, NONE = -2;

    private static final int REGISTERS = 32;
    private static final int MOST_VARIABLES = 9;
    private static final int ALWAYS_0 = -2, ALWAYS_1 = -1;
    private static final int AND = 0, OR = 1, ONE_ALONE = 2, AND_NOT = 3, NOT_OR = 4;

    /** A word has the values for 64 assignments, so the 6 low bits of a number tell the place in it. */
    private static final int PLACE_BITS = 6;

    /** The places in a word whose own bit 0, 1, .. 5 is set. */
    private static final long[] PLACES_WITH_BIT = {
        0xAAAAAAAAAAAAAAAAL, 0xCCCCCCCCCCCCCCCCL, 0xF0F0F0F0F0F0F0F0L,
        0xFF00FF00FF00FF00L, 0xFFFF0000FFFF0000L, 0xFFFFFFFF00000000L};

    /** Enough for every name that a block can get (see joinHalves), and two names fit in an int. */
    private static final int NAME_BITS = 10;

    /** The names 0 and 1 are those of the functions that are always 0 and always 1. */
    private static final int FIRST_NAME = 2;

    private final int variables;
    private final int assignments;
    private final int words;

    /** The places of a word that stand for an assignment: not all, if there are fewer than 64. */
    private final long places;

    /** A row for each register; the bits outside of places are always 0. */
    private final long[][] rows;

    /** Where a new row is made before it is kept, as the register it is for may be read meanwhile. */
    private final long[] made;

    /** For size alone, made once as a run has little room. */
    private final int[] names;
    private final int[] parts;

    public FunctionRoom(int variables) {
        this.variables = Math.max(1, Math.min(MOST_VARIABLES, variables));
        assignments = 1 << this.variables;
        words = Math.max(1, assignments >> PLACE_BITS);
        places = this.variables < PLACE_BITS ? (1L << assignments) - 1 : -1L;
        rows = new long[REGISTERS][words];
        made = new long[words];
        names = new int[assignments];
        parts = new int[assignments];
    }

    public int load(int r, int what) {
        boolean constant = what == ALWAYS_0 || what == ALWAYS_1;
        if (!isRegister(r) || !(constant || isVariable(what))) {
            return REFUSED;
        }
        for (int w = 0; w < words; w++) {
            if (constant) {
                made[w] = what == ALWAYS_1 ? places : 0;
            } else {
                made[w] = placesWhereOne(what, w);
            }
        }
        return keep(r);
    }

    public int reckon(int op, int r, int a, int b) {
        if (op < AND || op > NOT_OR || !isRegister(r) || !isRegister(a) || !isRegister(b)) {
            return REFUSED;
        }
        for (int w = 0; w < words; w++) {
            made[w] = combined(op, rows[a][w], rows[b][w]) & places;
        }
        return keep(r);
    }

    public int not(int r, int a) {
        if (!isRegister(r) || !isRegister(a)) {
            return REFUSED;
        }
        for (int w = 0; w < words; w++) {
            made[w] = ~rows[a][w] & places;
        }
        return keep(r);
    }

    public int with(int r, int a, int v, boolean one) {
        if (!isRegister(r) || !isRegister(a) || !isVariable(v)) {
            return REFUSED;
        }
        for (int w = 0; w < words; w++) {
            made[w] = narrowed(rows[a], v, one, w);
        }
        return keep(r);
    }

    public int bind(int r, int a, int v, boolean all) {
        if (!isRegister(r) || !isRegister(a) || !isVariable(v)) {
            return REFUSED;
        }
        for (int w = 0; w < words; w++) {
            long here = rows[a][w];
            long there = turned(rows[a], v, w);
            made[w] = all ? here & there : here | there;
        }
        return keep(r);
    }

    public int put(int r, int a, int v, int b) {
        if (!isRegister(r) || !isRegister(a) || !isVariable(v) || !isRegister(b)) {
            return REFUSED;
        }
        for (int w = 0; w < words; w++) {
            long chosen = rows[b][w];
            made[w] = (chosen & narrowed(rows[a], v, true, w)) | (~chosen & narrowed(rows[a], v, false, w));
        }
        return keep(r);
    }

    public int many(int r) {
        return isRegister(r) ? count(rows[r]) : REFUSED;
    }

    public int nth(int r, int k) {
        if (!isRegister(r)) {
            return REFUSED;
        }
        int seen = 0;
        for (int number = 0; number < assignments; number++) {
            if (valueAt(rows[r], number) == 1) {
                if (seen == k) {
                    return number;
                }
                seen++;
            }
        }
        return NONE;
    }

    public int value(int r, int assignment) {
        if (!isRegister(r) || assignment < 0 || assignment >= assignments) {
            return REFUSED;
        }
        return valueAt(rows[r], assignment);
    }

    public boolean same(int a, int b) {
        if (!isRegister(a) || !isRegister(b)) {
            return false;
        }
        for (int w = 0; w < words; w++) {
            if (rows[a][w] != rows[b][w]) {
                return false;
            }
        }
        return true;
    }

    public int size(int r) {
        if (!isRegister(r)) {
            return REFUSED;
        }
        for (int number = 0; number < assignments; number++) {
            names[number] = valueAt(rows[r], number);
        }
        int found = 0;
        for (int k = variables - 1; k >= 0; k--) {
            found = joinHalves(k, found);
        }
        return found;
    }

    public int matters(int r) {
        if (!isRegister(r)) {
            return REFUSED;
        }
        int bits = 0;
        for (int v = 0; v < variables; v++) {
            if (dependsOn(rows[r], v)) {
                bits |= 1 << v;
            }
        }
        return bits;
    }

    private static boolean isRegister(int r) {
        return r >= 0 && r < REGISTERS;
    }

    private boolean isVariable(int v) {
        return v >= 0 && v < variables;
    }

    private int keep(int r) {
        System.arraycopy(made, 0, rows[r], 0, words);
        return count(made);
    }

    private int count(long[] row) {
        int ones = 0;
        for (int w = 0; w < words; w++) {
            ones += Long.bitCount(row[w]);
        }
        return ones;
    }

    /** A shift of a long looks at the 6 low bits of the number alone: at the place. */
    private static int valueAt(long[] row, int number) {
        return (int) (row[number >> PLACE_BITS] >>> number) & 1;
    }

    private static long combined(int op, long a, long b) {
        switch (op) {
            case AND:
                return a & b;
            case OR:
                return a | b;
            case ONE_ALONE:
                return a ^ b;
            case AND_NOT:
                return a & ~b;
            default:
                return ~a | b;
        }
    }

    /** Variable 0 is the highest bit of an assignment's number. */
    private int bitOf(int v) {
        return variables - 1 - v;
    }

    private long placesWhereOne(int v, int w) {
        int bit = bitOf(v);
        if (bit < PLACE_BITS) {
            return PLACES_WITH_BIT[bit] & places;
        }
        return (w >> (bit - PLACE_BITS) & 1) == 1 ? places : 0;
    }

    /** Word w of the row as it would be if variable v had its other value in every assignment. */
    private long turned(long[] row, int v, int w) {
        int bit = bitOf(v);
        if (bit >= PLACE_BITS) {
            return row[w ^ (1 << (bit - PLACE_BITS))];
        }
        int distance = 1 << bit;
        long ones = PLACES_WITH_BIT[bit];
        return ((row[w] & ones) >>> distance) | ((row[w] & ~ones) << distance);
    }

    /** Word w of the row as it would be if variable v had the given value in every assignment. */
    private long narrowed(long[] row, int v, boolean one, int w) {
        long ones = placesWhereOne(v, w);
        long right = one ? ones : ~ones;
        return (row[w] & right) | (turned(row, v, w) & ~right);
    }

    private boolean dependsOn(long[] row, int v) {
        for (int w = 0; w < words; w++) {
            if (row[w] != turned(row, v, w)) {
                return true;
            }
        }
        return false;
    }

    /**
     * Blocks are what is left of a function once the first variables have values, and blocks of one length have one
     * name if they are the same. From the names with k + 1 variables given this makes those with k given: a block
     * whose halves differ is a part. Answers how many parts are found by then.
     */
    private int joinHalves(int k, int foundBefore) {
        int found = foundBefore;
        for (int block = 0; block < 1 << k; block++) {
            int for0 = names[2 * block];
            int for1 = names[2 * block + 1];
            if (for0 == for1) {
                names[block] = for0;
            } else {
                int part = for0 << NAME_BITS | for1;
                int at = placeOfPart(part, foundBefore, found);
                parts[at] = part;
                found = Math.max(found, at + 1);
                names[block] = FIRST_NAME + at;
            }
        }
        return found;
    }

    /** Looks from the first part of this k on alone: equal halves of another k are another part. */
    private int placeOfPart(int part, int from, int end) {
        for (int at = from; at < end; at++) {
            if (parts[at] == part) {
                return at;
            }
        }
        return end;
    }
}
