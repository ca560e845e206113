import java.util.ArrayList;
import java.util.Comparator;
import java.util.List;
import java.util.Set;
import java.util.TreeSet;

/**
 * Long runs of calls, told by a counter and not by chance, on the class and on a model that does
 * what the document says in the slowest and plainest way; every answer must be the same.
 */
public final class ModelTest {
    private static final int RUNS = 300;
    private static final int CALLS = 512;

    private static int wrong = 0;

    public static void main(String[] args) {
        for (int run = 0; run < RUNS && wrong < 20; run++) {
            new Run(run).play();
        }
        System.out.println(wrong == 0 ? "class and model agree" : wrong + " answers differ");
        if (wrong != 0) {
            System.exit(1);
        }
    }

    /** One run: most arguments are fit and close together, so that rules and changes meet. */
    private static final class Run {
        private final int number;
        private long state;
        private final ReportCauses real = new ReportCauses();
        private final Model model = new Model();
        private int calls = 0;

        Run(int number) {
            this.number = number;
            this.state = 1234567L + 7919L * number;
        }

        void play() {
            while (calls < CALLS && wrong < 20) {
                int which = below(calls < 50 ? 20 : 40);
                if (which < 20) {
                    build(which);
                } else if (which < 30) {
                    ask(which - 20);
                } else {
                    search();
                }
            }
        }

        private int below(int bound) {
            state = state * 6364136223846793005L + 1442695040888963407L;
            return (int) ((state >>> 33) % bound);
        }

        private int odd(int fit) {
            int[] wild = {-1, 12, 13, 6, Integer.MIN_VALUE, Integer.MAX_VALUE, fit + 1};
            return below(40) == 0 ? wild[below(wild.length)] : fit;
        }

        private int node() {
            return odd(below(4) == 0 ? below(12) : number % 5 + below(4));
        }

        private int predicate() {
            return odd(below(3) == 0 ? 0 : number % 3 + below(3));
        }

        private int size() {
            return odd(below(4) == 0 ? below(13) : 1 + below(3));
        }

        private int[] someResult() {
            List<Integer> all = model.resultsOf(model.triples);
            if (all.isEmpty() || below(10) == 0) {
                return new int[] {odd(below(Math.max(1, model.rules.size()))), node()};
            }
            int one = all.get(below(all.size()));
            return new int[] {one / 12, one % 12};
        }

        /** What an object answers after its last call is free. */
        private boolean mayCall() {
            calls++;
            return calls <= CALLS;
        }

        private void due(String what, long got, long want) {
            if (got != want) {
                wrong++;
                System.out.println("run " + number + ", call " + calls + ": " + what + " answered "
                    + got + ", the model " + want);
            }
        }

        private void build(int which) {
            int s = node();
            int p = predicate();
            int o = node();
            if (!mayCall()) {
                return;
            }
            if (which < 10) {
                due("triple " + s + " " + p + " " + o, real.triple(s, p, o), model.triple(s, p, o));
            } else if (which < 12) {
                due("drop " + s + " " + p + " " + o, real.drop(s, p, o), model.drop(s, p, o));
            } else if (which < 14) {
                addRule(s, p);
            } else if (which < 17) {
                addChange(s, p, o);
            } else if (which < 18) {
                int n = odd(below(3) == 0 ? 5000 : 1 + below(300));
                due("tries " + n, real.tries(n), model.tries(n));
            } else if (which < 19) {
                due("clear", real.clear(), model.clear());
            } else {
                due("results", real.results(), model.resultsOf(model.triples).size());
            }
        }

        private void addRule(int target, int p) {
            int kind = odd(below(6));
            int a = odd(kind < 2 ? below(3) : kind < 4 ? node() : below(6));
            if (model.rules.size() < 2 + number % 6 || below(25) == 0) {
                due("rule", real.rule(kind, target, p, a), model.rule(kind, target, p, a));
            }
        }

        private void addChange(int s, int p, int o) {
            boolean puts = below(2) == 0;
            int weight = odd(1 + below(number % 3 == 0 ? 2 : 9));
            due("change", real.change(puts, s, p, o, weight), model.change(puts, s, p, o, weight));
        }

        private void ask(int which) {
            int n = node();
            int c = node();
            int k = odd(below(3));
            int i = odd(below(6));
            if (!mayCall()) {
                return;
            }
            if (which < 1) {
                due("isOf " + n + " " + c, real.isOf(n, c), model.isOf(n, c));
            } else if (which < 6) {
                due("reason " + n + " " + c + " " + k, real.reason(n, c, k), model.reason(n, c, k));
            } else if (which < 8) {
                due("result " + i, real.result(i), model.result(i));
            } else {
                askFound(below(6), i, k);
            }
        }

        /** Changes come, sets of them are sought, and what was found is read and perhaps done. */
        private void search() {
            if (below(2) == 0 && mayCall()) {
                due("clear", real.clear(), model.clear());
            }
            for (int i = below(3); i > 0 && mayCall(); i--) {
                addChange(node(), predicate(), node());
            }
            int[] r = someResult();
            for (int i = below(3); i > 0 && mayCall(); i--) {
                due("suggest " + r[0] + " " + r[1], real.suggest(r[0], r[1]), model.suggest(r[0], r[1]));
                r = below(2) == 0 ? r : someResult();
            }
            int size = size();
            if (below(3) > 0 && mayCall()) {
                due("find " + r[0] + " " + r[1] + " " + size, real.find(r[0], r[1], size),
                    model.find(r[0], r[1], size));
            } else if (mayCall()) {
                due("cover " + size, real.cover(size), model.cover(size));
            }
            readEnd();
            for (int i = 10 + below(10); i > 0 && mayCall(); i--) {
                askFound(below(6), odd(below(Math.max(1, model.found.size()))), odd(below(3)));
            }
            int some = odd(below(Math.max(1, model.found.size())));
            if (below(3) == 0 && mayCall()) {
                due("apply " + some, real.apply(some), model.apply(some));
            }
        }

        private void readEnd() {
            if (mayCall()) {
                due("settled", real.settled() ? 1 : 0, model.settled ? 1 : 0);
            }
            if (mayCall()) {
                due("tried", real.tried(), model.tried);
            }
        }

        private void askFound(int which, int i, int k) {
            if (which == 0) {
                due("set " + i + " " + k, real.set(i, k), model.set(i, k));
            } else if (which == 1) {
                due("weight " + i, real.weight(i), model.weight(i));
            } else if (which == 2) {
                due("covered " + k, real.covered(k), model.covered(k));
            } else if (which == 3) {
                due("breaks " + i + " " + k, real.breaks(i, k), model.breaks(i, k));
            } else if (which == 4) {
                due("sentence " + i, real.sentence(i), model.sentence(i));
            } else {
                int l = odd(below(30));
                due("letter " + l, real.letter(l), model.letter(l));
            }
        }
    }

    private static final class Model {
        private static final int BAD = -1;
        private static final int NO = -2;
        private static final int FULL = -3;

        private final Set<Integer> triples = new TreeSet<>();
        private final List<int[]> rules = new ArrayList<>();
        private final List<int[]> changes = new ArrayList<>();
        private final List<List<Integer>> found = new ArrayList<>();
        private List<Integer> covered = new ArrayList<>();
        private String told = "";
        private int tries = 500;
        private int tried = 0;
        private boolean settled = false;

        private static boolean in(int n, int least, int most) {
            return least <= n && n <= most;
        }

        private static boolean fit(int s, int p, int o) {
            return in(s, 0, 11) && in(p, 0, 5) && in(o, 0, 11);
        }

        private static int code(int s, int p, int o) {
            return 72 * s + 12 * p + o;
        }

        int triple(int s, int p, int o) {
            return !fit(s, p, o) ? BAD : triples.add(code(s, p, o)) ? 1 : 0;
        }

        int drop(int s, int p, int o) {
            return !fit(s, p, o) ? BAD : triples.remove(code(s, p, o)) ? 1 : 0;
        }

        int rule(int kind, int target, int p, int a) {
            if (!in(kind, 0, 5) || !in(target, 0, 11) || !in(p, 0, 5)
                || !in(a, 0, kind < 2 ? 12 : kind < 4 ? 11 : 5)) {
                return BAD;
            }
            if (rules.size() == 10) {
                return FULL;
            }
            rules.add(new int[] {kind, target, p, a});
            return rules.size() - 1;
        }

        private static Set<Integer> objects(Set<Integer> in, int s, int p) {
            Set<Integer> all = new TreeSet<>();
            for (int o = 0; o < 12; o++) {
                if (in.contains(code(s, p, o))) {
                    all.add(o);
                }
            }
            return all;
        }

        /** Ways from a node to a class, as few steps as can be, the least of them. */
        private static List<Integer> way(Set<Integer> in, int node, int class0) {
            List<List<Integer>> ways = new ArrayList<>();
            for (int type : objects(in, node, 0)) {
                ways.add(List.of(type));
            }
            Set<Integer> seen = new TreeSet<>();
            while (!ways.isEmpty()) {
                for (List<Integer> one : ways) {
                    if (one.get(one.size() - 1) == class0) {
                        return one;
                    }
                }
                List<List<Integer>> longer = new ArrayList<>();
                for (List<Integer> one : ways) {
                    int end = one.get(one.size() - 1);
                    if (seen.add(end)) {
                        for (int next : objects(in, end, 1)) {
                            List<Integer> more = new ArrayList<>(one);
                            more.add(next);
                            longer.add(more);
                        }
                    }
                }
                ways = longer;
            }
            return List.of();
        }

        private static boolean isOf(Set<Integer> in, int node, int class0) {
            return !way(in, node, class0).isEmpty();
        }

        private boolean isResult(Set<Integer> in, int rule, int x) {
            int[] r = rules.get(rule);
            if (!isOf(in, x, r[1])) {
                return false;
            }
            Set<Integer> objects = objects(in, x, r[2]);
            int a = r[3];
            if (r[0] < 2) {
                return r[0] == 0 ? objects.size() < a : objects.size() > a;
            }
            if (r[0] == 2) {
                return !objects.stream().allMatch(y -> isOf(in, y, a));
            }
            if (r[0] == 3) {
                return objects.contains(a);
            }
            Set<Integer> others = objects(in, x, a);
            return r[0] == 4 ? !objects.equals(others) : objects.stream().anyMatch(others::contains);
        }

        List<Integer> resultsOf(Set<Integer> in) {
            List<Integer> all = new ArrayList<>();
            for (int n = 0; n < 12 * rules.size(); n++) {
                if (isResult(in, n / 12, n % 12)) {
                    all.add(n);
                }
            }
            return all;
        }

        private static int nth(List<Integer> all, int n) {
            return in(n, 0, all.size() - 1) ? all.get(n) : NO;
        }

        int result(int i) {
            return nth(resultsOf(triples), i);
        }

        int isOf(int node, int class0) {
            return !in(node, 0, 11) || !in(class0, 0, 11) ? BAD : isOf(triples, node, class0) ? 1 : 0;
        }

        int reason(int node, int class0, int i) {
            if (!in(node, 0, 11) || !in(class0, 0, 11)) {
                return BAD;
            }
            List<Integer> way = way(triples, node, class0);
            if (!in(i, 0, way.size() - 1)) {
                return NO;
            }
            return i == 0 ? code(node, 0, way.get(0)) : code(way.get(i - 1), 1, way.get(i));
        }

        int change(boolean puts, int s, int p, int o, int weight) {
            if (!fit(s, p, o) || !in(weight, 1, 9)) {
                return BAD;
            }
            for (int[] c : changes) {
                if (c[0] == (puts ? 1 : 0) && c[1] == code(s, p, o)) {
                    return NO;
                }
            }
            if (changes.size() == 12) {
                return FULL;
            }
            changes.add(new int[] {puts ? 1 : 0, code(s, p, o), weight});
            return changes.size() - 1;
        }

        private boolean isNone(int rule, int node) {
            return !in(rule, 0, rules.size() - 1) || !in(node, 0, 11);
        }

        int suggest(int rule, int x) {
            if (isNone(rule, x)) {
                return BAD;
            }
            if (!isResult(triples, rule, x)) {
                return NO;
            }
            int before = changes.size();
            int[] r = rules.get(rule);
            int p = r[2];
            int a = r[3];
            if (triples.contains(code(x, 0, r[1]))) {
                change(false, x, 0, r[1], 1);
            }
            for (int y = 0; y < 12; y++) {
                boolean one = objects(triples, x, p).contains(y);
                boolean other = r[0] > 3 && objects(triples, x, a).contains(y);
                if (r[0] == 0 && !one) {
                    change(true, x, p, y, 1);
                }
                if (r[0] == 1 && one || r[0] == 3 && one && y == a) {
                    change(false, x, p, y, 1);
                }
                if (r[0] == 2 && one && !isOf(triples, y, a)) {
                    change(false, x, p, y, 1);
                    change(true, y, 0, a, 1);
                }
                if (r[0] == 4 && one && !other) {
                    change(false, x, p, y, 1);
                    change(true, x, a, y, 1);
                }
                if (r[0] == 4 && !one && other) {
                    change(true, x, p, y, 1);
                    change(false, x, a, y, 1);
                }
                if (r[0] == 5 && one && other) {
                    change(false, x, p, y, 1);
                    change(false, x, a, y, 1);
                }
            }
            return changes.size() - before;
        }

        int clear() {
            int many = changes.size();
            changes.clear();
            found.clear();
            covered = new ArrayList<>();
            return many;
        }

        int tries(int n) {
            if (!in(n, 1, 5000)) {
                return BAD;
            }
            tries = n;
            return n;
        }

        private void combine(List<List<Integer>> all, List<Integer> begun, int from, int left) {
            if (left == 0) {
                all.add(new ArrayList<>(begun));
                return;
            }
            for (int c = from; c < changes.size(); c++) {
                begun.add(c);
                combine(all, begun, c + 1, left - 1);
                begun.remove(begun.size() - 1);
            }
        }

        private List<List<Integer>> setsOf(int least, int most) {
            List<List<Integer>> all = new ArrayList<>();
            for (int size = least; size <= most; size++) {
                combine(all, new ArrayList<>(), 0, size);
            }
            return all;
        }

        private Set<Integer> with(List<Integer> set) {
            Set<Integer> then = new TreeSet<>(triples);
            for (int c : set) {
                if (changes.get(c)[0] == 1) {
                    then.add(changes.get(c)[1]);
                } else {
                    then.remove(changes.get(c)[1]);
                }
            }
            return then;
        }

        private int sum(List<Integer> set) {
            int sum = 0;
            for (int c : set) {
                sum += changes.get(c)[2];
            }
            return sum;
        }

        int find(int rule, int node, int size) {
            if (isNone(rule, node) || !in(size, 1, 12)) {
                return BAD;
            }
            if (!isResult(triples, rule, node)) {
                return NO;
            }
            found.clear();
            tried = 0;
            settled = true;
            for (List<Integer> set : setsOf(1, size)) {
                if (found.stream().anyMatch(set::containsAll)) {
                    continue;
                }
                if (tried == tries) {
                    settled = false;
                    break;
                }
                tried++;
                if (!isResult(with(set), rule, node)) {
                    found.add(set);
                }
                if (found.size() == 30) {
                    settled = false;
                    break;
                }
            }
            found.sort(Comparator.comparingInt(this::sum).thenComparingInt(List::size)
                .thenComparing(Model::compareNumbers));
            return found.size();
        }

        private static int compareNumbers(List<Integer> one, List<Integer> other) {
            for (int k = 0; k < one.size(); k++) {
                if (!one.get(k).equals(other.get(k))) {
                    return one.get(k) - other.get(k);
                }
            }
            return 0;
        }

        private List<Integer> foundAt(int i) {
            return in(i, 0, found.size() - 1) ? found.get(i) : List.of();
        }

        int set(int i, int k) {
            return nth(foundAt(i), k);
        }

        int weight(int i) {
            return foundAt(i).isEmpty() ? NO : sum(foundAt(i));
        }

        int breaks(int i, int k) {
            if (foundAt(i).isEmpty()) {
                return NO;
            }
            List<Integer> then = resultsOf(with(foundAt(i)));
            then.removeAll(resultsOf(triples));
            return nth(then, k);
        }

        int apply(int i) {
            if (foundAt(i).isEmpty()) {
                return NO;
            }
            Set<Integer> then = with(foundAt(i));
            triples.clear();
            triples.addAll(then);
            found.clear();
            return resultsOf(triples).size();
        }

        int cover(int size) {
            if (!in(size, 0, 12)) {
                return BAD;
            }
            tried = 0;
            settled = true;
            List<List<Integer>> good = new ArrayList<>();
            for (List<Integer> set : setsOf(0, size)) {
                if (tried == tries) {
                    settled = false;
                    break;
                }
                tried++;
                if (resultsOf(with(set)).isEmpty()) {
                    good.add(set);
                }
            }
            good.sort(Comparator.comparingInt(this::sum).thenComparingInt(List::size)
                .thenComparing(Model::compareNumbers));
            covered = good.isEmpty() ? new ArrayList<>() : good.get(0);
            return good.isEmpty() ? NO : sum(covered);
        }

        int covered(int k) {
            return nth(covered, k);
        }

        int sentence(int i) {
            if (foundAt(i).isEmpty()) {
                return NO;
            }
            List<String> parts = new ArrayList<>();
            for (int c : foundAt(i)) {
                int[] change = changes.get(c);
                parts.add((change[0] == 1 ? "put " : "take ") + change[1] / 72 + " "
                    + change[1] / 12 % 6 + " " + change[1] % 12);
            }
            told = String.join(", ", parts) + ".";
            return told.length();
        }

        int letter(int k) {
            return in(k, 0, told.length() - 1) ? told.charAt(k) : NO;
        }
    }
}
