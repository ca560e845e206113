import java.util.function.Consumer;
import java.util.function.ToIntFunction;

/**
 * A refused call, and a call that only asks, changes nothing: of two objects with the same calls
 * one is called once more, and then both must answer the same to all that can be asked.
 */
public final class RefusalsTest extends Expect {
    public static void main(String[] args) {
        badTriplesAndRules();
        badChanges();
        badSearches();
        noSuch();
        full();
        onlyAsking();
        end();
    }

    /** Triples, rules, changes, sets found, one covered, one told, and tries of its own. */
    private static void prepare(ReportCauses x) {
        x.triple(0, 0, 10);
        x.triple(10, 1, 11);
        x.triple(3, 0, 11);
        x.triple(3, 2, 4);
        x.rule(0, 11, 2, 2);
        x.rule(3, 11, 2, 4);
        x.rule(1, 9, 2, 0);
        x.rule(3, 11, 2, 5);
        x.change(true, 3, 2, 5, 2);
        x.change(true, 0, 0, 9, 3);
        x.change(false, 3, 0, 11, 6);
        x.change(false, 0, 0, 10, 1);
        x.change(true, 3, 2, 6, 2);
        x.tries(77);
        x.find(0, 3, 2);
        x.cover(4);
        x.tries(5);
        x.find(0, 3, 2);
        x.sentence(2);
    }

    private static void fill(ReportCauses x) {
        prepare(x);
        for (int c = 5; c < 12; c++) {
            x.change(true, 1, 5, c, 1);
        }
        for (int r = 4; r < 10; r++) {
            x.rule(0, 8, 5, r);
        }
    }

    private static void same(String what, int want, ToIntFunction<ReportCauses> call) {
        sameAfter(RefusalsTest::prepare, what, want, call);
    }

    private static void sameAfter(Consumer<ReportCauses> before, String what, int want,
            ToIntFunction<ReportCauses> call) {
        ReportCauses called = new ReportCauses();
        ReportCauses left = new ReportCauses();
        before.accept(called);
        before.accept(left);
        due(what, call.applyAsInt(called), want);
        due("after " + what + ", all that can be asked", all(called), all(left));
    }

    private static String all(ReportCauses x) {
        StringBuilder all = new StringBuilder();
        all.append("told ").append(told(x)).append(" settled ").append(x.settled());
        all.append(" tried ").append(x.tried()).append(" covered ").append(covered(x));
        all.append(" sets ").append(sets(x)).append(" weights ").append(weights(x));
        for (int i = 0; i < 3; i++) {
            all.append(" breaks ").append(breaks(x, i));
        }
        all.append(" results ").append(x.results()).append(' ').append(results(x)).append(" classes ");
        for (int node = 0; node < 12; node++) {
            for (int c = 8; c < 12; c++) {
                all.append(x.isOf(node, c));
            }
        }
        all.append(" gone ");
        for (int o = 0; o < 12; o++) {
            all.append(x.drop(3, 2, o)).append(x.drop(0, 0, o)).append(x.drop(10, 1, o));
        }
        all.append(" rule ").append(x.rule(0, 11, 5, 1)).append(" changes ").append(x.clear());
        return all.append(" tries ").append(triesOf(x)).toString();
    }

    /** Node 7 becomes a result of rule 0, which twelve idle changes never clear. */
    private static int triesOf(ReportCauses x) {
        x.triple(7, 0, 11);
        for (int o = 0; o < 12; o++) {
            x.change(true, 7, 4, o, 1);
        }
        x.find(0, 7, 12);
        return x.tried();
    }

    private static void badTriplesAndRules() {
        same("triple of no node", BAD, x -> x.triple(12, 2, 4));
        same("triple of no predicate", BAD, x -> x.triple(3, 6, 4));
        same("triple of no object", BAD, x -> x.triple(3, 2, 12));
        same("triple that is there", 0, x -> x.triple(3, 2, 4));
        same("drop of no node", BAD, x -> x.drop(-1, 2, 4));
        same("drop of no predicate", BAD, x -> x.drop(3, -1, 4));
        same("drop of no object", BAD, x -> x.drop(3, 2, -1));
        same("drop of what is not there", 0, x -> x.drop(3, 2, 5));
        same("rule of no kind", BAD, x -> x.rule(6, 11, 2, 0));
        same("rule of no target", BAD, x -> x.rule(0, 12, 2, 0));
        same("rule of no predicate", BAD, x -> x.rule(0, 11, 6, 0));
        same("rule of 13 objects", BAD, x -> x.rule(0, 11, 2, 13));
        same("rule of no class", BAD, x -> x.rule(2, 11, 2, 12));
        same("rule of no other predicate", BAD, x -> x.rule(4, 11, 2, 6));
        same("isOf of no node", BAD, x -> x.isOf(12, 0));
        same("isOf of no class", BAD, x -> x.isOf(0, 12));
        same("reason of no node", BAD, x -> x.reason(12, 0, 0));
        same("reason of no class", BAD, x -> x.reason(0, 12, 0));
    }

    private static void badChanges() {
        same("change of no node", BAD, x -> x.change(true, 12, 2, 4, 1));
        same("change of no predicate", BAD, x -> x.change(true, 3, 6, 4, 1));
        same("change of no object", BAD, x -> x.change(true, 3, 2, 12, 1));
        same("change of weight 0", BAD, x -> x.change(true, 3, 2, 7, 0));
        same("change of weight 10", BAD, x -> x.change(true, 3, 2, 7, 10));
        same("the same change", NO, x -> x.change(true, 3, 2, 5, 9));
        same("suggest of no rule", BAD, x -> x.suggest(4, 3));
        same("suggest of no node", BAD, x -> x.suggest(0, 12));
        same("suggest where it holds", NO, x -> x.suggest(2, 3));
        same("suggest for a node not of the target", NO, x -> x.suggest(0, 5));
    }

    private static void badSearches() {
        same("tries 0", BAD, x -> x.tries(0));
        same("tries 5001", BAD, x -> x.tries(5001));
        same("find of no rule", BAD, x -> x.find(4, 3, 2));
        same("find of no node", BAD, x -> x.find(0, 12, 2));
        same("find of size 0", BAD, x -> x.find(0, 3, 0));
        same("find of size 13", BAD, x -> x.find(0, 3, 13));
        same("find where it holds", NO, x -> x.find(1, 0, 2));
        same("find for a node not of the target", NO, x -> x.find(0, 5, 2));
        same("cover of size -1", BAD, x -> x.cover(-1));
        same("cover of size 13", BAD, x -> x.cover(13));
    }

    private static void noSuch() {
        for (int n : NO_INDEXES) {
            same("result " + n, NO, x -> x.result(n));
            same("reason's " + n, NO, x -> x.reason(0, 11, n));
            same("set " + n, NO, x -> x.set(n, 0));
            same("set 0, change " + n, NO, x -> x.set(0, n));
            same("weight " + n, NO, x -> x.weight(n));
            same("breaks " + n, NO, x -> x.breaks(n, 0));
            same("breaks 0, result " + n, NO, x -> x.breaks(0, n));
            same("apply " + n, NO, x -> x.apply(n));
            same("covered " + n, NO, x -> x.covered(n));
            same("sentence " + n, NO, x -> x.sentence(n));
            same("letter " + n, NO, x -> x.letter(n));
        }
        same("apply beyond the last", NO, x -> x.apply(3));
        same("sentence beyond the last", NO, x -> x.sentence(3));
        same("reason of what it is not of", NO, x -> x.reason(0, 8, 0));
    }

    private static void full() {
        sameAfter(RefusalsTest::fill, "rule when full", FULL, x -> x.rule(1, 11, 2, 0));
        sameAfter(RefusalsTest::fill, "change when full", FULL, x -> x.change(true, 3, 2, 7, 1));
        sameAfter(RefusalsTest::fill, "suggest when full", 0, x -> x.suggest(0, 3));
    }

    private static void onlyAsking() {
        same("results", 3, x -> x.results());
        same("result", 0, x -> x.result(0));
        same("isOf", 1, x -> x.isOf(0, 11));
        same("reason", 10, x -> x.reason(0, 11, 0));
        same("settled", 0, x -> x.settled() ? 1 : 0);
        same("tried", 5, x -> x.tried());
        same("set", 0, x -> x.set(0, 0));
        same("weight", 2, x -> x.weight(0));
        same("breaks", 39, x -> x.breaks(0, 0));
        same("covered", 2, x -> x.covered(0));
        same("letter", 't', x -> x.letter(0));
    }
}
