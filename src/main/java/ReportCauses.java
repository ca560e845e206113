import java.util.Arrays;

/**
 * Why things do not hold to rules: least sets of changes that would make one hold, what a set
 * would break, the lightest set that puts all right, and the reasons of classes.
 *
 * <p>A set of changes is an int with bit c for change c, and a set of nodes an int with bit n for
 * node n: so a search makes nothing, and a whole object lives in rows made once.
 */
public final class ReportCauses {
    public static final int BAD = -1;
    public static final int NO = -2;
    public static final int FULL = -3;

    private static final int NODES = 12;
    private static final int PREDICATES = 6;
    private static final int CELLS = NODES * PREDICATES;
    private static final int CODES_OF_NODE = PREDICATES * NODES;
    private static final int TYPE = 0;
    private static final int BELOW = 1;

    private static final int AT_LEAST = 0;
    private static final int AT_MOST = 1;
    private static final int ALL_OF_CLASS = 2;
    private static final int NONE_IS_NODE = 3;
    private static final int SAME_AS = 4;
    private static final int APART_FROM = 5;

    private static final int MOST_RULES = 10;
    private static final int MOST_CHANGES = 12;
    private static final int MOST_SETS = 1 << MOST_CHANGES;
    private static final int MOST_FOUND = 30;
    private static final int MOST_WEIGHT = 9;
    private static final int MOST_TRIES = 5000;
    private static final int FIRST_TRIES = 500;

    // A found set has a change at least, so the empty set can stand for "no such set" there.
    private static final int NOTHING = 0;
    private static final int END = -1;

    private final Triples triples;
    private final Triples trial;
    private final Rules rules;
    private final Changes changes;
    private final Findings found;
    private final StringBuilder told;
    private int coveredSet;
    private int allowedTries;
    private int latestTried;
    private boolean latestSettled;

    public ReportCauses() {
        triples = new Triples();
        trial = new Triples();
        rules = new Rules();
        changes = new Changes();
        found = new Findings();
        told = new StringBuilder();
        coveredSet = NOTHING;
        allowedTries = FIRST_TRIES;
        latestTried = 0;
        latestSettled = false;
    }

    public int triple(int s, int p, int o) {
        return putOrTake(true, s, p, o);
    }

    public int drop(int s, int p, int o) {
        return putOrTake(false, s, p, o);
    }

    public int rule(int kind, int target, int p, int a) {
        if (!isNode(target) || !isPredicate(p) || !fitsKind(kind, a)) {
            return BAD;
        }
        return rules.add(kind, target, p, a);
    }

    public int results() {
        int many = 0;
        for (int rule = 0; rule < rules.count; rule++) {
            many += Integer.bitCount(rules.failing(triples, rule));
        }
        return many;
    }

    public int result(int i) {
        return nthResult(i, false);
    }

    public int isOf(int node, int class0) {
        if (!isNode(node) || !isNode(class0)) {
            return BAD;
        }
        return triples.isMember(node, class0) ? 1 : 0;
    }

    public int reason(int node, int class0, int i) {
        if (!isNode(node) || !isNode(class0)) {
            return BAD;
        }
        return triples.nthOfReason(node, class0, i);
    }

    public int change(boolean puts, int s, int p, int o, int weight) {
        if (!isTriple(s, p, o) || weight < 1 || weight > MOST_WEIGHT) {
            return BAD;
        }
        return changes.add(puts, codeOf(s, p, o), weight);
    }

    public int suggest(int rule, int node) {
        if (!rules.has(rule) || !isNode(node)) {
            return BAD;
        }
        if (!rules.fails(triples, rule, node)) {
            return NO;
        }
        int before = changes.count;
        int target = rules.target[rule];
        if (triples.has(node, TYPE, target)) {
            offer(false, node, TYPE, target);
        }
        for (int y = 0; y < NODES; y++) {
            offerAbout(rule, node, y);
        }
        return changes.count - before;
    }

    public int clear() {
        int many = changes.count;
        changes.forget();
        found.forget();
        coveredSet = NOTHING;
        return many;
    }

    public int tries(int n) {
        if (n < 1 || n > MOST_TRIES) {
            return BAD;
        }
        allowedTries = n;
        return n;
    }

    public int find(int rule, int node, int size) {
        if (!rules.has(rule) || !isNode(node) || size < 1 || size > MOST_CHANGES) {
            return BAD;
        }
        if (!rules.fails(triples, rule, node)) {
            return NO;
        }
        findSets(rule, node, Math.min(size, changes.count));
        return found.count;
    }

    public boolean settled() {
        return latestSettled;
    }

    public int tried() {
        return latestTried;
    }

    public int set(int i, int k) {
        return nthMember(found.at(i), k);
    }

    public int weight(int i) {
        int chosen = found.at(i);
        return chosen == NOTHING ? NO : changes.weightOf(chosen);
    }

    public int breaks(int i, int k) {
        int chosen = found.at(i);
        if (chosen == NOTHING) {
            return NO;
        }
        tryOut(chosen);
        return nthResult(k, true);
    }

    public int apply(int i) {
        int chosen = found.at(i);
        if (chosen == NOTHING) {
            return NO;
        }
        changes.doAll(triples, chosen);
        triples.sortIntoClasses();
        found.forget();
        return results();
    }

    public int cover(int size) {
        if (size < 0 || size > MOST_CHANGES) {
            return BAD;
        }
        int lightest = lightestCover(Math.min(size, changes.count));
        if (lightest == END) {
            coveredSet = NOTHING;
            return NO;
        }
        coveredSet = lightest;
        return changes.weightOf(lightest);
    }

    public int covered(int k) {
        return nthMember(coveredSet, k);
    }

    public int sentence(int i) {
        int chosen = found.at(i);
        if (chosen == NOTHING) {
            return NO;
        }
        told.setLength(0);
        for (int c = 0; c < changes.count; c++) {
            if (hasMember(chosen, c)) {
                if (told.length() > 0) {
                    told.append(", ");
                }
                changes.tell(c, told);
            }
        }
        told.append('.');
        return told.length();
    }

    public int letter(int k) {
        if (k < 0 || k >= told.length()) {
            return NO;
        }
        return told.charAt(k);
    }

    private static boolean isNode(int n) {
        return n >= 0 && n < NODES;
    }

    private static boolean isPredicate(int p) {
        return p >= 0 && p < PREDICATES;
    }

    private static boolean isTriple(int s, int p, int o) {
        return isNode(s) && isPredicate(p) && isNode(o);
    }

    private static boolean fitsKind(int kind, int a) {
        switch (kind) {
            case AT_LEAST:
            case AT_MOST:
                return a >= 0 && a <= NODES;
            case ALL_OF_CLASS:
            case NONE_IS_NODE:
                return isNode(a);
            case SAME_AS:
            case APART_FROM:
                return isPredicate(a);
            default:
                return false;
        }
    }

    private static int codeOf(int s, int p, int o) {
        return CODES_OF_NODE * s + NODES * p + o;
    }

    private static boolean hasMember(int members, int n) {
        return (members >> n & 1) != 0;
    }

    /** For sets of changes as well, of which there are no more than nodes. */
    private static int nthMember(int members, int n) {
        int left = n;
        for (int m = 0; m < NODES; m++) {
            if (hasMember(members, m)) {
                if (left == 0) {
                    return m;
                }
                left--;
            }
        }
        return NO;
    }

    /**
     * The set after this one, by size and then as numbers go up, or END. A set's next of the same
     * size moves the last change that has room above it, with those behind it closing up.
     */
    private static int nextSet(int chosen, int count, int mostSize) {
        int packed = 0;
        while (packed < count && hasMember(chosen, count - 1 - packed)) {
            packed++;
        }
        int rest = chosen & ((1 << (count - packed)) - 1);
        if (rest == 0) {
            return packed < mostSize ? (1 << (packed + 1)) - 1 : END;
        }
        int mover = 31 - Integer.numberOfLeadingZeros(rest);
        int closedUp = ((1 << (packed + 1)) - 1) << (mover + 1);
        return rest & ~(1 << mover) | closedUp;
    }

    private int putOrTake(boolean puts, int s, int p, int o) {
        if (!isTriple(s, p, o)) {
            return BAD;
        }
        if (triples.has(s, p, o) == puts) {
            return 0;
        }
        triples.alter(puts, codeOf(s, p, o));
        triples.sortIntoClasses();
        return 1;
    }

    private int nthResult(int n, boolean onlyBroken) {
        if (n < 0) {
            return NO;
        }
        int left = n;
        for (int rule = 0; rule < rules.count; rule++) {
            int nodes = rules.failing(triples, rule);
            if (onlyBroken) {
                nodes = rules.failing(trial, rule) & ~nodes;
            }
            int many = Integer.bitCount(nodes);
            if (left < many) {
                return NODES * rule + nthMember(nodes, left);
            }
            left -= many;
        }
        return NO;
    }

    private void offer(boolean puts, int s, int p, int o) {
        changes.add(puts, codeOf(s, p, o), 1);
    }

    private void offerAbout(int rule, int x, int y) {
        int p = rules.predicate[rule];
        int a = rules.number[rule];
        boolean isObject = triples.has(x, p, y);
        switch (rules.kind[rule]) {
            case AT_LEAST:
                if (!isObject) {
                    offer(true, x, p, y);
                }
                break;
            case AT_MOST:
                if (isObject) {
                    offer(false, x, p, y);
                }
                break;
            case ALL_OF_CLASS:
                if (isObject && !triples.isMember(y, a)) {
                    offer(false, x, p, y);
                    offer(true, y, TYPE, a);
                }
                break;
            case NONE_IS_NODE:
                if (isObject && y == a) {
                    offer(false, x, p, y);
                }
                break;
            case SAME_AS:
                if (isObject != triples.has(x, a, y)) {
                    offer(!isObject, x, p, y);
                    offer(isObject, x, a, y);
                }
                break;
            default:
                if (isObject && triples.has(x, a, y)) {
                    offer(false, x, p, y);
                    offer(false, x, a, y);
                }
                break;
        }
    }

    private void tryOut(int chosen) {
        trial.copyFrom(triples);
        changes.doAll(trial, chosen);
        trial.sortIntoClasses();
    }

    private void findSets(int rule, int node, int mostSize) {
        found.forget();
        latestTried = 0;
        latestSettled = false;
        int chosen = nextSet(NOTHING, changes.count, mostSize);
        for (int step = 0; step < MOST_SETS && chosen != END; step++) {
            if (!found.hasPartOf(chosen)) {
                if (latestTried >= allowedTries) {
                    return;
                }
                latestTried++;
                tryOut(chosen);
                if (!rules.fails(trial, rule, node)) {
                    found.add(chosen, changes.weightOf(chosen));
                }
                if (found.count >= MOST_FOUND) {
                    return;
                }
            }
            chosen = nextSet(chosen, changes.count, mostSize);
        }
        latestSettled = true;
    }

    private int lightestCover(int mostSize) {
        latestTried = 0;
        latestSettled = false;
        int best = END;
        int bestWeight = MOST_WEIGHT * MOST_CHANGES + 1;
        int chosen = NOTHING;
        for (int step = 0; step < MOST_SETS && chosen != END; step++) {
            if (latestTried >= allowedTries) {
                return best;
            }
            latestTried++;
            int sum = changes.weightOf(chosen);
            // Sets come by size and order, so a later one must be lighter to go before.
            if (sum < bestWeight && putsAllRight(chosen)) {
                best = chosen;
                bestWeight = sum;
            }
            chosen = nextSet(chosen, changes.count, mostSize);
        }
        latestSettled = true;
        return best;
    }

    private boolean putsAllRight(int chosen) {
        tryOut(chosen);
        for (int rule = 0; rule < rules.count; rule++) {
            if (rules.failing(trial, rule) != 0) {
                return false;
            }
        }
        return true;
    }

    /**
     * Triples, as a set of objects for each node and predicate, and the members of each class.
     * Who alters triples sorts them into classes before a class is asked for: a set of changes is
     * sorted once, and not at all when it leaves the classes alone.
     */
    private static final class Triples {
        private final int[] objects = new int[CELLS];
        private final int[] members = new int[NODES];
        private final int[] within = new int[NODES];
        private boolean isSorted = true;

        Triples() {
        }

        boolean has(int s, int p, int o) {
            return hasMember(objectsOf(s, p), o);
        }

        int objectsOf(int s, int p) {
            return objects[PREDICATES * s + p];
        }

        int membersOf(int class0) {
            return members[class0];
        }

        boolean isMember(int node, int class0) {
            return hasMember(members[class0], node);
        }

        void copyFrom(Triples other) {
            System.arraycopy(other.objects, 0, objects, 0, CELLS);
            System.arraycopy(other.members, 0, members, 0, NODES);
            isSorted = other.isSorted;
        }

        void alter(boolean puts, int code) {
            int cell = code / NODES;
            int object = 1 << code % NODES;
            objects[cell] = puts ? objects[cell] | object : objects[cell] & ~object;
            int p = cell % PREDICATES;
            if (p == TYPE || p == BELOW) {
                isSorted = false;
            }
        }

        void sortIntoClasses() {
            if (isSorted) {
                return;
            }
            Arrays.fill(members, 0);
            for (int node = 0; node < NODES; node++) {
                int classes = classesOf(node);
                for (int c = 0; c < NODES && classes != 0; c++) {
                    if (hasMember(classes, c)) {
                        members[c] |= 1 << node;
                    }
                }
            }
            isSorted = true;
        }

        int nthOfReason(int node, int class0, int n) {
            int belows = fewestBelows(node, class0);
            if (belows == END || n < 0 || n > belows) {
                return NO;
            }
            int from = node;
            int p = TYPE;
            int to = least(objectsOf(node, TYPE) & within[belows]);
            for (int i = 1; i <= n; i++) {
                from = to;
                p = BELOW;
                to = least(objectsOf(from, BELOW) & within[belows - i]);
            }
            return codeOf(from, p, to);
        }

        /** Leaves in within[d], up to the answer, the classes that lead to class0 by d or less. */
        private int fewestBelows(int node, int class0) {
            int types = objectsOf(node, TYPE);
            int near = 1 << class0;
            for (int d = 0; d < NODES; d++) {
                within[d] = near;
                if ((types & near) != 0) {
                    return d;
                }
                near |= leadingInto(near);
            }
            return END;
        }

        private int leadingInto(int classes) {
            int leading = 0;
            for (int c = 0; c < NODES; c++) {
                if ((objectsOf(c, BELOW) & classes) != 0) {
                    leading |= 1 << c;
                }
            }
            return leading;
        }

        /** The least node of some; of none, one that is still a node. */
        private static int least(int nodes) {
            return Math.min(Integer.numberOfTrailingZeros(nodes), NODES - 1);
        }

        private int classesOf(int node) {
            int reached = objectsOf(node, TYPE);
            int done = 0;
            for (int step = 0; step < NODES && done != reached; step++) {
                int next = least(reached & ~done);
                done |= 1 << next;
                reached |= objectsOf(next, BELOW);
            }
            return reached;
        }
    }

    /** Rules by their numbers, and which nodes do not hold to them. */
    private static final class Rules {
        private final int[] kind = new int[MOST_RULES];
        private final int[] target = new int[MOST_RULES];
        private final int[] predicate = new int[MOST_RULES];
        private final int[] number = new int[MOST_RULES];
        private int count = 0;

        Rules() {
        }

        boolean has(int rule) {
            return rule >= 0 && rule < count;
        }

        int add(int newKind, int newTarget, int p, int a) {
            if (count >= MOST_RULES) {
                return FULL;
            }
            kind[count] = newKind;
            target[count] = newTarget;
            predicate[count] = p;
            number[count] = a;
            count++;
            return count - 1;
        }

        boolean fails(Triples among, int rule, int x) {
            return among.isMember(x, target[rule]) && !holds(among, rule, x);
        }

        int failing(Triples among, int rule) {
            int asked = among.membersOf(target[rule]);
            int nodes = 0;
            for (int x = 0; x < NODES && asked != 0; x++) {
                if (hasMember(asked, x) && !holds(among, rule, x)) {
                    nodes |= 1 << x;
                }
            }
            return nodes;
        }

        private boolean holds(Triples among, int rule, int x) {
            int objects = among.objectsOf(x, predicate[rule]);
            int a = number[rule];
            switch (kind[rule]) {
                case AT_LEAST:
                    return Integer.bitCount(objects) >= a;
                case AT_MOST:
                    return Integer.bitCount(objects) <= a;
                case ALL_OF_CLASS:
                    return (objects & ~among.membersOf(a)) == 0;
                case NONE_IS_NODE:
                    return !hasMember(objects, a);
                case SAME_AS:
                    return objects == among.objectsOf(x, a);
                default:
                    return (objects & among.objectsOf(x, a)) == 0;
            }
        }
    }

    /** Changes by their numbers, and what a set of them does, weighs and is called. */
    private static final class Changes {
        private final boolean[] puts = new boolean[MOST_CHANGES];
        private final int[] code = new int[MOST_CHANGES];
        private final int[] weighs = new int[MOST_CHANGES];
        private int count = 0;

        Changes() {
        }

        int add(boolean newPuts, int newCode, int newWeight) {
            for (int c = 0; c < count; c++) {
                if (puts[c] == newPuts && code[c] == newCode) {
                    return NO;
                }
            }
            if (count >= MOST_CHANGES) {
                return FULL;
            }
            puts[count] = newPuts;
            code[count] = newCode;
            weighs[count] = newWeight;
            count++;
            return count - 1;
        }

        void forget() {
            count = 0;
        }

        int weightOf(int chosen) {
            int sum = 0;
            for (int c = 0; c < count; c++) {
                if (hasMember(chosen, c)) {
                    sum += weighs[c];
                }
            }
            return sum;
        }

        void doAll(Triples among, int chosen) {
            for (int c = 0; c < count; c++) {
                if (hasMember(chosen, c)) {
                    among.alter(puts[c], code[c]);
                }
            }
        }

        void tell(int c, StringBuilder into) {
            into.append(puts[c] ? "put " : "take ");
            into.append(code[c] / CODES_OF_NODE);
            into.append(' ');
            into.append(code[c] / NODES % PREDICATES);
            into.append(' ');
            into.append(code[c] % NODES);
        }
    }

    /** The sets that the latest search found, the lightest first. */
    private static final class Findings {
        private final int[] sets = new int[MOST_FOUND];
        private final int[] sums = new int[MOST_FOUND];
        private int count = 0;

        Findings() {
        }

        void forget() {
            count = 0;
        }

        int at(int i) {
            return i >= 0 && i < count ? sets[i] : NOTHING;
        }

        boolean hasPartOf(int chosen) {
            for (int i = 0; i < count; i++) {
                if ((sets[i] & ~chosen) == 0) {
                    return true;
                }
            }
            return false;
        }

        /** Sets come by size and order, so a new one goes behind all that are no heavier. */
        void add(int chosen, int sum) {
            if (count >= MOST_FOUND) {
                return;
            }
            int place = count;
            while (place > 0 && sums[place - 1] > sum) {
                sets[place] = sets[place - 1];
                sums[place] = sums[place - 1];
                place--;
            }
            sets[place] = chosen;
            sums[place] = sum;
            count++;
        }
    }
}
