/** Each sentence of the document's Terms that names a boundary case, with a test of its own. */
public final class TermsBoundariesTest extends Expect {
    private static final int[] NONE = {};
    private static final int[] ALL = {0, 1, 2, 3, 4, 5, 6, 7, 8, 9, 10, 11};
    private static final int[] ALL_BUT_6 = {0, 1, 2, 3, 4, 5, 7, 8, 9, 10, 11};

    public static void main(String[] args) {
        sentence("What it is: used for at most 512 calls", TermsBoundariesTest::the512thCall);
        sentence("NODES are 0 .. 11", TermsBoundariesTest::nodes);
        sentence("PREDICATES 0 .. 5", TermsBoundariesTest::predicates);
        sentence("the CODE of one is 72 s + 12 p + o", TermsBoundariesTest::codes);
        sentence("it has a TYPE that is c", TermsBoundariesTest::typeThatIsTheClass);
        sentence("or that leads to c by one BELOW or more", TermsBoundariesTest::belows);
        sentence("a ring of BELOWs", TermsBoundariesTest::ringOfBelows);
        sentence("RULES, at most 10, are numbered from 0", TermsBoundariesTest::rules);
        sentence("for all nodes x that are of its TARGET", TermsBoundariesTest::noneAndAllOfTarget);
        sentence("kind 0: a objects at least", TermsBoundariesTest::kind0);
        sentence("kind 1: a at most", TermsBoundariesTest::kind1);
        sentence("kind 2: all objects are of class a", TermsBoundariesTest::kind2);
        sentence("kind 3: none is node a", TermsBoundariesTest::kind3);
        sentence("kind 4: just what predicate a leads to", TermsBoundariesTest::kind4);
        sentence("kind 5: none is what predicate a leads to", TermsBoundariesTest::kind5);
        sentence("its number is 12 times the rule and the node", TermsBoundariesTest::resultNumbers);
        sentence("Results are sorted by their numbers", TermsBoundariesTest::resultsSorted);
        sentence("CHANGES, at most 12, are numbered from 0", TermsBoundariesTest::changes);
        sentence("with the triples as they are (they stay so)", TermsBoundariesTest::triplesStay);
        sentence("it CLEARS a result that is none then", TermsBoundariesTest::clears);
        sentence("it BREAKS what is a result then and was none", TermsBoundariesTest::breaks);
        sentence("sets of one change, then of two, .., up to that size", TermsBoundariesTest::sizes);
        sentence("of one size in the order of their numbers", TermsBoundariesTest::orderOfOneSize);
        sentence("that have a set found before within are passed over", TermsBoundariesTest::passedOver);
        sentence("It ends when the 30th is found", TermsBoundariesTest::thirtiethFound);
        sentence("29 found do not end it", TermsBoundariesTest::twentyNineFound);
        sentence("the 30th that is the last of all", TermsBoundariesTest::thirtiethIsLast);
        sentence("or before one try more than there may be", TermsBoundariesTest::triesOfFind);
        sentence("or when all are done, and is", TermsBoundariesTest::allDone);
        sentence("in order: by the sum of weights, then the size", TermsBoundariesTest::orderOfFound);
        sentence("TO COVER: the empty one first", TermsBoundariesTest::emptyOneFirst);
        sentence("TO COVER: all sets of up to a size", TermsBoundariesTest::sizesOfCover);
        sentence("TO COVER: none passed over", TermsBoundariesTest::noCoverPassedOver);
        sentence("TO COVER: no result at all", TermsBoundariesTest::noResultAtAll);
        sentence("TO COVER: least sum, least size, first", TermsBoundariesTest::tiesOfCover);
        sentence("TO COVER: SETTLED likewise", TermsBoundariesTest::triesOfCover);
        sentence("What was found stays, whatever comes or goes", TermsBoundariesTest::foundStays);
        sentence("till the next TO FIND that is not refused", TermsBoundariesTest::foundTillFind);
        sentence("till apply() or clear()", TermsBoundariesTest::foundTillApplyOrClear);
        sentence("what was covered stays", TermsBoundariesTest::coveredStays);
        sentence("till the next TO COVER that is not BAD", TermsBoundariesTest::coveredTillCover);
        sentence("covered till clear()", TermsBoundariesTest::coveredTillClear);
        end();
    }

    /** Twelve changes that put what no rule asks for. */
    private static void addIdleChanges(ReportCauses x) {
        for (int o = 0; o < 12; o++) {
            x.change(true, 0, 5, o, 1);
        }
    }

    private static void the512thCall() {
        ReportCauses x = asking(12);
        for (int o = 0; o < 12; o++) {
            x.change(true, 0, 2, o, 9);
        }
        x.tries(5000);
        for (int call = 15; call < 511; call += 4) {
            due("find", x.find(0, 0, 12), 1);
            due("sentence", x.sentence(0), 12 * 9 + 2 + 22 + 1);
            due("cover", x.cover(12), 108);
            due("breaks", x.breaks(0, 0), NO);
        }
        due("call 512", x.apply(0), 0);
    }

    private static void nodes() {
        ReportCauses x = new ReportCauses();
        for (int n : new int[] {0, 11}) {
            due("triple from " + n, x.triple(n, 2, 5), 1);
            due("triple to " + n, x.triple(5, 2, n), 1);
            due("drop from " + n, x.drop(n, 2, 5), 1);
            due("drop to " + n, x.drop(5, 2, n), 1);
            due("isOf " + n, x.isOf(n, n), 0);
            due("reason " + n, x.reason(n, n, 0), NO);
            due("rule for " + n, x.rule(2, n, 2, n), n == 0 ? 0 : 1);
            due("change from " + n, x.change(true, n, 2, 5, 1), n == 0 ? 0 : 2);
            due("change to " + n, x.change(true, 5, 2, n, 1), n == 0 ? 1 : 3);
            due("suggest for " + n, x.suggest(0, n), NO);
            due("find for " + n, x.find(0, n, 1), NO);
        }
        for (int n : NO_NODES) {
            due("triple from " + n, x.triple(n, 2, 5), BAD);
            due("triple to " + n, x.triple(5, 2, n), BAD);
            due("drop from " + n, x.drop(n, 2, 5), BAD);
            due("drop to " + n, x.drop(5, 2, n), BAD);
            due("isOf, node " + n, x.isOf(n, 0), BAD);
            due("isOf, class " + n, x.isOf(0, n), BAD);
            due("reason, node " + n, x.reason(n, 0, 0), BAD);
            due("reason, class " + n, x.reason(0, n, 0), BAD);
            due("rule for " + n, x.rule(2, n, 2, 0), BAD);
            due("change from " + n, x.change(true, n, 2, 5, 1), BAD);
            due("change to " + n, x.change(true, 5, 2, n, 1), BAD);
            due("suggest for " + n, x.suggest(0, n), BAD);
            due("find for " + n, x.find(0, n, 1), BAD);
        }
    }

    private static void predicates() {
        ReportCauses x = new ReportCauses();
        for (int p : new int[] {0, 5}) {
            due("triple by " + p, x.triple(3, p, 4), 1);
            due("drop by " + p, x.drop(3, p, 4), 1);
            due("rule of " + p, x.rule(4, 3, p, p), p == 0 ? 0 : 1);
            due("change by " + p, x.change(true, 3, p, 4, 1), p == 0 ? 0 : 1);
        }
        for (int p : NO_PREDICATES) {
            due("triple by " + p, x.triple(3, p, 4), BAD);
            due("drop by " + p, x.drop(3, p, 4), BAD);
            due("rule of " + p, x.rule(0, 3, p, 0), BAD);
            due("rule against " + p, x.rule(4, 3, 0, p), BAD);
            due("change by " + p, x.change(true, 3, p, 4, 1), BAD);
        }
    }

    private static void codes() {
        ReportCauses x = new ReportCauses();
        x.triple(0, 0, 0);
        x.triple(11, 0, 11);
        x.triple(11, 1, 10);
        x.triple(0, 1, 11);
        due("the least", x.reason(0, 0, 0), 0);
        due("the greatest TYPE", x.reason(11, 11, 0), 803);
        due("the greatest BELOW of a reason", x.reason(11, 10, 1), 814);
        due("the least BELOW's object 11", x.reason(0, 11, 1), 23);
    }

    private static void typeThatIsTheClass() {
        ReportCauses x = new ReportCauses();
        x.triple(4, 1, 5);
        x.triple(4, 2, 6);
        for (int c = 0; c < 12; c++) {
            due("without a TYPE", x.isOf(4, c), 0);
        }
        x.triple(4, 0, 4);
        x.triple(4, 0, 11);
        x.triple(4, 0, 0);
        for (int c = 0; c < 12; c++) {
            due("of class " + c, x.isOf(4, c), c == 0 || c == 4 || c == 5 || c == 11 ? 1 : 0);
        }
    }

    private static void belows() {
        ReportCauses x = new ReportCauses();
        x.triple(7, 0, 0);
        for (int c = 0; c < 11; c++) {
            due("before the BELOW", x.isOf(7, c + 1), 0);
            x.triple(c, 1, c + 1);
            due("after BELOWs", x.isOf(7, c + 1), 1);
            due("reason's BELOW", x.reason(7, c + 1, c + 1), 72 * c + 12 + c + 1);
            due("reason's end", x.reason(7, c + 1, c + 2), NO);
        }
        due("a class has no TYPE", x.isOf(3, 4), 0);
        x.triple(8, 0, 6);
        due("not up again", x.isOf(8, 5), 0);
        due("down to the end", x.isOf(8, 11), 1);
        x.drop(5, 1, 6);
        due("a gap, before it", x.isOf(7, 5), 1);
        due("a gap, behind it", x.isOf(7, 6), 0);
        due("a gap, the end", x.isOf(7, 11), 0);
        due("a gap before another", x.isOf(8, 11), 1);
    }

    private static void ringOfBelows() {
        ReportCauses x = new ReportCauses();
        for (int c = 0; c < 12; c++) {
            x.triple(c, 1, (c + 1) % 12);
            x.triple(c, 1, c);
        }
        x.triple(2, 0, 5);
        for (int c = 0; c < 12; c++) {
            due("of class " + c, x.isOf(2, c), 1);
            due("no TYPE", x.isOf(3, c), 0);
        }
        due("reason round the ring", reason(x, 2, 4),
            "149 378 451 524 597 670 743 804 13 86 159 232");
        due("reason of the TYPE itself", reason(x, 2, 5), "149");
        due("reason without a TYPE", reason(x, 3, 5), "");
    }

    private static void rules() {
        ReportCauses x = new ReportCauses();
        x.triple(0, 0, 11);
        for (int r = 0; r < 10; r++) {
            due("no rule yet", x.find(r, 0, 1), BAD);
            due("rule", x.rule(0, 11, 2, 1), r);
            due("there is a rule", x.find(r, 0, 1), 0);
        }
        due("the eleventh", x.rule(0, 11, 2, 1), FULL);
        due("results of ten", x.results(), 10);
        for (int r : new int[] {-1, 10, 32, 357913942, LEAST, MOST}) {
            due("find of rule " + r, x.find(r, 0, 1), BAD);
            due("suggest of rule " + r, x.suggest(r, 0), BAD);
        }
        due("suggest of rule 9", x.suggest(9, 0), 12);
    }

    private static void noneAndAllOfTarget() {
        ReportCauses x = new ReportCauses();
        x.rule(0, 6, 2, 1);
        due("none is", x.results(), 0);
        x.triple(6, 1, 6);
        due("the class itself is not", x.results(), 0);
        for (int n = 0; n < 12; n++) {
            x.triple(n, 0, 6);
        }
        due("all are", results(x), "0 1 2 3 4 5 6 7 8 9 10 11");
        for (int n = 0; n < 12; n++) {
            x.drop(n, 0, 6);
        }
        due("none is again", x.results(), 0);
    }

    /** How many results a rule has for node 0, with these objects of predicates 2 and 3. */
    private static int failing(int kind, int a, int[] objects, int[] others) {
        ReportCauses x = new ReportCauses();
        x.triple(0, 0, 10);
        x.rule(kind, 10, 2, a);
        for (int o : objects) {
            x.triple(0, 2, o);
        }
        for (int o : others) {
            x.triple(0, 3, o);
        }
        return x.results();
    }

    private static int failing(int kind, int a, int... objects) {
        return failing(kind, a, objects, NONE);
    }

    private static void kind0() {
        due("0 of none", failing(0, 0), 0);
        due("0 of one", failing(0, 0, 0), 0);
        due("1 of none", failing(0, 1), 1);
        due("1 of one", failing(0, 1, 11), 0);
        due("1 of two", failing(0, 1, 0, 11), 0);
        due("11 of eleven", failing(0, 11, ALL_BUT_6), 0);
        due("12 of eleven", failing(0, 12, ALL_BUT_6), 1);
        due("12 of twelve", failing(0, 12, ALL), 0);
    }

    private static void kind1() {
        due("0 of none", failing(1, 0), 0);
        due("0 of one", failing(1, 0, 0), 1);
        due("1 of none", failing(1, 1), 0);
        due("1 of one", failing(1, 1, 11), 0);
        due("1 of two", failing(1, 1, 0, 11), 1);
        due("11 of eleven", failing(1, 11, ALL_BUT_6), 0);
        due("11 of twelve", failing(1, 11, ALL), 1);
        due("12 of twelve", failing(1, 12, ALL), 0);
    }

    private static void kind2() {
        due("no objects", failing(2, 10), 0);
        due("no objects, an empty class", failing(2, 9), 0);
        due("one that is", failing(2, 10, 0), 0);
        due("one that is not", failing(2, 10, 11), 1);
        due("one that is, one that is not", failing(2, 10, 0, 11), 1);
        due("the class itself is not", failing(2, 10, 10), 1);
        due("an empty class", failing(2, 9, 0), 1);
        due("all but one are not", failing(2, 10, ALL), 1);
    }

    private static void kind3() {
        due("no objects", failing(3, 0), 0);
        due("node 0", failing(3, 0, 0), 1);
        due("node 11", failing(3, 11, 11), 1);
        due("all others", failing(3, 6, ALL_BUT_6), 0);
        due("all", failing(3, 6, ALL), 1);
    }

    private static void kind4() {
        due("both none", failing(4, 3, NONE, NONE), 0);
        due("one, none", failing(4, 3, new int[] {0}, NONE), 1);
        due("none, one", failing(4, 3, NONE, new int[] {11}), 1);
        due("one and another", failing(4, 3, new int[] {0}, new int[] {11}), 1);
        due("both all", failing(4, 3, ALL, ALL), 0);
        due("all, all but one", failing(4, 3, ALL, ALL_BUT_6), 1);
        due("all but one, all", failing(4, 3, ALL_BUT_6, ALL), 1);
        due("a predicate and itself", failing(4, 2, ALL_BUT_6, NONE), 0);
    }

    private static void kind5() {
        due("both none", failing(5, 3, NONE, NONE), 0);
        due("all, none", failing(5, 3, ALL, NONE), 0);
        due("none, all", failing(5, 3, NONE, ALL), 0);
        due("one and all others", failing(5, 3, new int[] {6}, ALL_BUT_6), 0);
        due("the least is shared", failing(5, 3, new int[] {0, 6}, ALL_BUT_6), 1);
        due("the greatest is shared", failing(5, 3, new int[] {11}, ALL), 1);
        due("a predicate and itself, none", failing(5, 2), 0);
        due("a predicate and itself, one", failing(5, 2, 6), 1);
    }

    private static void resultNumbers() {
        ReportCauses x = new ReportCauses();
        for (int r = 0; r < 10; r++) {
            x.rule(0, 3, 2, 1);
        }
        for (int n = 0; n < 12; n++) {
            x.triple(n, 0, 3);
        }
        due("how many", x.results(), 120);
        for (int i = 0; i < 120; i++) {
            due("result " + i, x.result(i), i);
        }
        due("none beyond", x.result(120), NO);
    }

    private static void resultsSorted() {
        ReportCauses x = new ReportCauses();
        x.triple(11, 0, 3);
        x.triple(0, 0, 3);
        x.rule(0, 3, 2, 1);
        x.rule(0, 3, 4, 1);
        x.rule(0, 3, 3, 1);
        x.triple(11, 2, 0);
        x.triple(0, 4, 0);
        due("sorted", results(x), "0 23 24 35");
    }

    private static void changes() {
        ReportCauses x = new ReportCauses();
        for (int c = 0; c < 12; c++) {
            due("change", x.change(c % 2 == 0, 11, 5, c, 9), c);
        }
        due("the thirteenth", x.change(true, 11, 5, 1, 9), FULL);
        due("how many", x.clear(), 12);
        due("from 0 again", x.change(true, 11, 5, 1, 9), 0);
    }

    private static void triplesStay() {
        ReportCauses x = asking(2);
        x.triple(0, 2, 4);
        x.change(false, 0, 2, 4, 1);
        x.change(true, 0, 2, 5, 1);
        x.change(false, 0, 0, 11, 1);
        x.tries(1);
        x.find(0, 0, 3);
        due("after one try", x.results(), 1);
        x.tries(500);
        x.find(0, 0, 3);
        x.breaks(0, 0);
        x.cover(3);
        due("after all tries", x.results(), 1);
        due("the class stays", x.isOf(0, 11), 1);
        due("what would be taken is there", x.triple(0, 2, 4), 0);
        due("what would be put is not", x.drop(0, 2, 5), 0);
    }

    private static void clears() {
        ReportCauses x = asking(1);
        x.triple(11, 1, 10);
        x.rule(1, 10, 3, 0);
        x.triple(0, 3, 0);
        x.change(true, 0, 2, 0, 1);
        x.change(false, 0, 3, 0, 1);
        x.change(false, 11, 1, 10, 1);
        x.change(false, 0, 0, 11, 1);
        x.find(0, 0, 1);
        due("it holds, or is not for the node", sets(x), "0, 3");
        x.find(1, 0, 1);
        due("by a BELOW that goes", sets(x), "1, 2, 3");
    }

    private static void breaks() {
        ReportCauses x = asking(1);
        x.rule(1, 11, 2, 0);
        x.rule(0, 11, 3, 1);
        x.rule(0, 5, 3, 1);
        x.change(true, 0, 2, 0, 1);
        x.change(false, 0, 0, 11, 2);
        x.find(0, 0, 1);
        due("what was and stays is not broken", breaks(x, 0), "12");
        due("what is cleared is not broken", breaks(x, 1), "");
        x.clear();
        x.triple(7, 2, 0);
        x.change(false, 0, 0, 11, 1);
        x.change(true, 11, 1, 5, 1);
        x.rule(2, 11, 0, 6);
        x.change(true, 11, 0, 6, 1);
        x.change(true, 11, 0, 11, 1);
        due("sets for the new rule", x.find(4, 0, 4), 2);
        due("a class goes", sets(x), "0, 2");
        x.triple(6, 1, 5);
        due("a node comes to a class", breaks(x, 1), "47");
    }

    private static void sizes() {
        ReportCauses x = asking(3);
        for (int o = 0; o < 4; o++) {
            x.change(true, 0, 2, o, 1);
        }
        x.change(false, 0, 0, 11, 9);
        due("size 1", x.find(0, 0, 1), 1);
        due("size 1, tried", x.tried(), 5);
        due("size 2", x.find(0, 0, 2), 1);
        due("size 2, tried", x.tried(), 5 + 6);
        due("size 3", x.find(0, 0, 3), 5);
        due("size 3, tried", x.tried(), 5 + 6 + 4);
        due("size 4", x.find(0, 0, 4), 5);
        due("size 4, tried", x.tried(), 15);
        due("size 12, more than there are", x.find(0, 0, 12), 5);
        due("size 12, sets", sets(x), "0 1 2, 0 1 3, 0 2 3, 1 2 3, 4");
        ReportCauses y = asking(12);
        for (int o = 0; o < 12; o++) {
            y.change(true, 0, 2, o, 1);
        }
        y.tries(5000);
        due("size 11 of twelve", y.find(0, 0, 11), 0);
        due("size 11 of twelve, tried", y.tried(), 4094);
        due("size 11 of twelve, settled", y.settled(), true);
        due("size 12 of twelve", y.find(0, 0, 12), 1);
        due("size 12 of twelve, the set", set(y, 0), "0 1 2 3 4 5 6 7 8 9 10 11");
    }

    /** One try more each time lets one set more be found: so the order shows. */
    private static void orderOfOneSize() {
        ReportCauses x = asking(2);
        for (int o = 0; o < 4; o++) {
            x.change(true, 0, 2, o, 1);
        }
        String[] pairs = {"0 1", "0 2", "0 3", "1 2", "1 3", "2 3"};
        StringBuilder due = new StringBuilder();
        for (int i = 0; i < pairs.length; i++) {
            x.tries(4 + i);
            due("tries for " + i, x.find(0, 0, 2), i);
            due("sets", sets(x), due.toString());
            due.append(i == 0 ? "" : ", ").append(pairs[i]);
        }
        ReportCauses y = asking(3);
        for (int o = 0; o < 5; o++) {
            y.change(true, 0, 2, o, 1);
        }
        y.find(0, 0, 5);
        due("threes of five", sets(y),
            "0 1 2, 0 1 3, 0 1 4, 0 2 3, 0 2 4, 0 3 4, 1 2 3, 1 2 4, 1 3 4, 2 3 4");
    }

    private static void passedOver() {
        ReportCauses x = asking(2);
        x.change(false, 0, 0, 11, 1);
        x.change(true, 0, 2, 1, 1);
        x.change(true, 0, 2, 2, 1);
        x.change(true, 0, 5, 2, 1);
        due("found", x.find(0, 0, 4), 2);
        due("neither 0 with others nor 1 2 with others", sets(x), "0, 1 2");
        due("tried: four, then 1 2, 1 3, 2 3", x.tried(), 7);
        x.tries(7);
        due("the same with just those tries", x.find(0, 0, 4), 2);
        due("settled with just those", x.settled(), true);
        x.tries(6);
        due("with one try less", x.find(0, 0, 4), 2);
        due("not settled with one less", x.settled(), false);
    }

    /** 36 pairs clear it; the last is the lightest, and is never come to. */
    private static void thirtiethFound() {
        ReportCauses x = asking(2);
        for (int o = 0; o < 9; o++) {
            x.change(true, 0, 2, o, o < 7 ? 9 : 1);
        }
        due("found", x.find(0, 0, 12), 30);
        due("settled", x.settled(), false);
        due("tried: nine, then 30", x.tried(), 39);
        due("the 30th there is", x.weight(29), 18);
        due("a 31st is not", x.weight(30), NO);
        due("the lightest that was come to", set(x, 0), "0 7");
        due("the last that was come to", set(x, 9), "4 8");
        due("the last of the heaviest", set(x, 29), "4 6");
        x.tries(39);
        due("with just those tries", x.find(0, 0, 12), 30);
        due("with just those tries, settled", x.settled(), false);
        x.tries(38);
        due("with one try less", x.find(0, 0, 12), 29);
        due("with one try less, settled", x.settled(), false);
    }

    private static void twentyNineFound() {
        ReportCauses x = asking(2);
        for (int o = 0; o < 8; o++) {
            x.change(true, 0, 2, o, 1);
        }
        x.change(false, 0, 0, 11, 9);
        due("found", x.find(0, 0, 12), 29);
        due("settled", x.settled(), true);
        due("tried: nine, then 28", x.tried(), 37);
    }

    private static void thirtiethIsLast() {
        ReportCauses x = asking(2);
        x.triple(0, 0, 10);
        x.triple(10, 1, 11);
        x.change(false, 0, 0, 11, 1);
        x.change(false, 0, 0, 10, 1);
        x.change(false, 10, 1, 11, 1);
        for (int o = 0; o < 8; o++) {
            x.change(true, 0, 2, o, 1);
        }
        due("found", x.find(0, 0, 2), 30);
        due("all were tried", x.tried(), 11 + 55);
        due("the last pair", set(x, 29), "9 10");
        due("settled", x.settled(), false);
    }

    private static void triesOfFind() {
        ReportCauses x = asking(12);
        for (int o = 0; o < 12; o++) {
            x.change(true, 0, 2, o, 1);
        }
        int[] tries = {1, 11, 12, 13, 4094, 4095, 4096, 5000};
        for (int n : tries) {
            x.tries(n);
            due("found with " + n, x.find(0, 0, 12), n < 4095 ? 0 : 1);
            due("tried with " + n, x.tried(), Math.min(n, 4095));
            due("settled with " + n, x.settled(), n >= 4095);
        }
        x.tries(12);
        due("size 1 with its twelve", x.find(0, 0, 1), 0);
        due("size 1 with its twelve, settled", x.settled(), true);
        x.tries(11);
        due("size 1 with eleven", x.find(0, 0, 1), 0);
        due("size 1 with eleven, settled", x.settled(), false);
    }

    private static void allDone() {
        ReportCauses x = asking(1);
        due("no changes", x.find(0, 0, 12), 0);
        due("no changes, tried", x.tried(), 0);
        due("no changes, settled", x.settled(), true);
        x.change(true, 0, 2, 0, 1);
        x.change(true, 0, 2, 1, 1);
        x.tries(2);
        due("only passed over are left", x.find(0, 0, 2), 2);
        due("only passed over are left, settled", x.settled(), true);
        due("only passed over are left, tried", x.tried(), 2);
        x.tries(1);
        due("one is left", x.find(0, 0, 2), 1);
        due("one is left, settled", x.settled(), false);
    }

    private static void orderOfFound() {
        ReportCauses x = asking(2);
        x.change(true, 0, 2, 0, 4);
        x.change(true, 0, 2, 1, 5);
        x.change(true, 0, 2, 2, 5);
        x.change(true, 0, 2, 3, 4);
        x.change(false, 0, 0, 11, 9);
        x.triple(0, 2, 9);
        x.find(0, 0, 5);
        due("ones by weight, then as told", sets(x), "0, 3, 1, 2, 4");
        due("weights", weights(x), "4 4 5 5 9");
        x.drop(0, 2, 9);
        x.find(0, 0, 5);
        due("size between weight and order", sets(x), "0 3, 4, 0 1, 0 2, 1 3, 2 3, 1 2");
        due("weights of pairs", weights(x), "8 9 9 9 9 9 10");
    }

    private static void emptyOneFirst() {
        ReportCauses x = asking(1);
        due("no changes, a result", x.cover(12), NO);
        due("no changes, tried", x.tried(), 1);
        due("no changes, settled", x.settled(), true);
        addIdleChanges(x);
        x.tries(1);
        due("one try, a result", x.cover(12), NO);
        due("one try, tried", x.tried(), 1);
        due("one try, settled", x.settled(), false);
        x.triple(0, 2, 0);
        due("one try, no result", x.cover(12), 0);
        due("one try, no result, covered", x.covered(0), NO);
        due("one try, no result, settled", x.settled(), false);
        due("size 0, no result", x.cover(0), 0);
        due("size 0, settled with its one try", x.settled(), true);
    }

    private static void sizesOfCover() {
        ReportCauses x = asking(12);
        for (int o = 0; o < 12; o++) {
            x.change(true, 0, 2, o, 9);
        }
        x.tries(5000);
        due("size 0", x.cover(0), NO);
        due("size 0, tried", x.tried(), 1);
        due("size 1", x.cover(1), NO);
        due("size 1, tried", x.tried(), 13);
        due("size 11", x.cover(11), NO);
        due("size 11, tried", x.tried(), 4095);
        due("size 12", x.cover(12), 108);
        due("size 12, tried", x.tried(), 4096);
        due("size 12, covered", covered(x), "0 1 2 3 4 5 6 7 8 9 10 11");
    }

    private static void noCoverPassedOver() {
        ReportCauses x = asking(1);
        x.change(true, 0, 2, 0, 9);
        x.change(true, 0, 2, 1, 4);
        x.change(true, 0, 2, 2, 3);
        due("the lightest", x.cover(3), 3);
        due("all were tried", x.tried(), 8);
        x.triple(0, 2, 5);
        due("the empty one", x.cover(3), 0);
        due("all were tried behind the empty one", x.tried(), 8);
    }

    private static void noResultAtAll() {
        ReportCauses x = asking(1);
        x.triple(11, 0, 11);
        x.rule(3, 11, 2, 3);
        x.change(true, 0, 2, 3, 1);
        x.change(true, 11, 2, 3, 1);
        x.change(true, 0, 2, 4, 9);
        due("one is left, or one is broken", x.cover(3), NO);
        x.change(true, 11, 2, 11, 9);
        due("both, and none broken", x.cover(4), 18);
        due("both, and none broken", covered(x), "2 3");
        due("a size too small for both", x.cover(1), NO);
        for (int r = 2; r < 9; r++) {
            x.rule(0, 11, 2, 1);
        }
        due("nine rules", x.cover(4), 18);
        due("the tenth", x.rule(1, 11, 4, 0), 9);
        due("ten rules", x.cover(4), 18);
        x.triple(0, 4, 0);
        due("the tenth does not hold", x.cover(4), NO);
    }

    private static void tiesOfCover() {
        ReportCauses x = asking(2);
        x.change(true, 0, 2, 0, 2);
        x.change(true, 0, 2, 1, 2);
        x.change(true, 0, 2, 2, 2);
        due("the first", x.cover(3), 4);
        due("the first", covered(x), "0 1");
        x.change(false, 0, 0, 11, 4);
        due("the lesser size", x.cover(3), 4);
        due("the lesser size", covered(x), "3");
        x.change(true, 0, 2, 4, 1);
        due("the lesser sum", x.cover(3), 3);
        due("the lesser sum", covered(x), "0 4");
    }

    private static void triesOfCover() {
        ReportCauses x = asking(1);
        for (int o = 0; o < 12; o++) {
            x.change(true, 0, 2, o, 12 - o > 9 ? 9 : 12 - o);
        }
        int[] tries = {1, 2, 4095, 4096, 5000};
        for (int n : tries) {
            x.tries(n);
            due("covered with " + n, x.cover(12), n == 1 ? NO : n == 2 ? 9 : 1);
            due("tried with " + n, x.tried(), Math.min(n, 4096));
            due("settled with " + n, x.settled(), n >= 4096);
        }
        x.tries(13);
        due("size 1 with its thirteen", x.cover(1), 1);
        due("size 1 with its thirteen, settled", x.settled(), true);
        x.tries(12);
        due("size 1 with twelve", x.cover(1), 2);
        due("size 1 with twelve, settled", x.settled(), false);
    }

    /** Two sets are found, 1 and 0; what they are done with differs from what they were found for. */
    private static ReportCauses withFoundSets() {
        ReportCauses x = asking(1);
        x.change(true, 0, 2, 3, 5);
        x.change(true, 0, 2, 4, 2);
        x.find(0, 0, 2);
        return x;
    }

    private static void foundStays() {
        ReportCauses x = withFoundSets();
        x.triple(0, 2, 3);
        due("a triple comes", sets(x), "1, 0");
        x.triple(0, 2, 4);
        x.drop(0, 2, 3);
        due("a triple goes", sets(x), "1, 0");
        x.rule(1, 11, 2, 0);
        due("a rule comes", sets(x), "1, 0");
        x.change(false, 0, 2, 4, 1);
        due("a change comes", sets(x), "1, 0");
        due("changes are suggested", x.suggest(1, 0), 1);
        due("changes are suggested", sets(x), "1, 0");
        x.tries(1);
        due("tries are set", sets(x), "1, 0");
        due("all is covered", x.cover(2), NO);
        due("all is covered", sets(x), "1, 0");
        x.drop(0, 0, 11);
        due("the result goes", sets(x), "1, 0");
        due("weights stay", weights(x), "2 5");
        due("it can be told", x.sentence(1), 10);
        due("it can be done", x.apply(1), 0);
        due("it is done", x.triple(0, 2, 3), 0);
    }

    private static void foundTillFind() {
        ReportCauses x = withFoundSets();
        due("refused: no such rule", x.find(1, 0, 2), BAD);
        due("refused: no such node", x.find(0, 12, 2), BAD);
        due("refused: size 0", x.find(0, 0, 0), BAD);
        due("refused: size 13", x.find(0, 0, 13), BAD);
        due("refused: no result", x.find(0, 1, 2), NO);
        due("after refusals", sets(x), "1, 0");
        x.rule(0, 11, 3, 1);
        due("one that finds none", x.find(1, 0, 2), 0);
        due("nothing is found", sets(x), "");
    }

    private static void foundTillApplyOrClear() {
        ReportCauses x = withFoundSets();
        due("apply of none such is refused", x.apply(2), NO);
        due("after the refused apply", sets(x), "1, 0");
        due("apply", x.apply(1), 0);
        due("after apply", sets(x), "");
        ReportCauses y = withFoundSets();
        due("clear", y.clear(), 2);
        due("after clear", sets(y), "");
        y.change(true, 0, 2, 3, 5);
        y.change(true, 0, 2, 4, 2);
        due("not found again with the changes", sets(y), "");
    }

    private static void coveredStays() {
        ReportCauses x = withFoundSets();
        x.cover(2);
        due("covered", covered(x), "1");
        x.triple(0, 2, 9);
        due("a triple comes", covered(x), "1");
        x.drop(0, 2, 9);
        due("a triple goes", covered(x), "1");
        x.rule(0, 11, 3, 1);
        due("a rule comes", covered(x), "1");
        x.change(true, 0, 3, 4, 1);
        due("a change comes", covered(x), "1");
        due("suggest", x.suggest(1, 0), 9);
        due("changes are suggested", covered(x), "1");
        due("find", x.find(1, 0, 1), 10);
        due("sets are found", covered(x), "1");
        due("apply", x.apply(0), 1);
        due("one is done", covered(x), "1");
    }

    private static void coveredTillCover() {
        ReportCauses x = withFoundSets();
        x.cover(2);
        due("size -1", x.cover(-1), BAD);
        due("after size -1", covered(x), "1");
        due("size 13", x.cover(13), BAD);
        due("after size 13", covered(x), "1");
        due("none at size 0", x.cover(0), NO);
        due("after none", covered(x), "");
        x.cover(1);
        x.triple(0, 2, 9);
        due("the empty one", x.cover(2), 0);
        due("after the empty one", covered(x), "");
    }

    private static void coveredTillClear() {
        ReportCauses x = withFoundSets();
        x.cover(2);
        x.clear();
        due("after clear", covered(x), "");
        x.change(true, 0, 2, 3, 5);
        x.change(true, 0, 2, 4, 2);
        due("not covered again with the changes", covered(x), "");
    }
}
