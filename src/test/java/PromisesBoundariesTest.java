/** Each sentence of the promises 1 to 23 that names a boundary case, with a test of its own. */
public final class PromisesBoundariesTest extends Expect {
    private static final int[] NO_SIZES_OF_FIND = {0, -1, 13, 32, LEAST, MOST};
    private static final int[] NO_SIZES_OF_COVER = {-1, 13, 32, LEAST, MOST};

    /** The triples that a code or a bit worked out from no node or no predicate would hit. */
    private static final int[][] NEXT_TO_BAD = {{5, 1, 11}, {5, 3, 0}, {5, 4, 8}, {5, 2, 0},
        {4, 5, 5}, {6, 0, 5}, {10, 2, 5}, {0, 5, 1}, {5, 1, 1}};

    public static void main(String[] args) {
        sentence("1: No triples", PromisesBoundariesTest::noTriples);
        sentence("1: No rules", PromisesBoundariesTest::noRules);
        sentence("1: No changes", PromisesBoundariesTest::noChanges);
        sentence("1: nothing was found", PromisesBoundariesTest::nothingFound);
        sentence("1: 500 tries", PromisesBoundariesTest::fiveHundredTries);
        sentence("1: A new object beside a full one", PromisesBoundariesTest::newBesideFull);
        sentence("2: 1; 0 when it is there", PromisesBoundariesTest::tripleThere);
        sentence("2: all triples there can be", PromisesBoundariesTest::allTriples);
        sentence("2: BAD", PromisesBoundariesTest::tripleBad);
        sentence("3: 1; 0 when it is not there", PromisesBoundariesTest::dropNotThere);
        sentence("3: BAD", PromisesBoundariesTest::dropBad);
        sentence("4: no such kind", PromisesBoundariesTest::ruleKind);
        sentence("4: no such target, predicate", PromisesBoundariesTest::ruleTargetPredicate);
        sentence("4: a is not 0 .. 12 (kinds 0, 1)", PromisesBoundariesTest::ruleNumberOfObjects);
        sentence("4: no node (2, 3)", PromisesBoundariesTest::ruleNode);
        sentence("4: no predicate (4, 5)", PromisesBoundariesTest::ruleOtherPredicate);
        sentence("4: FULL", PromisesBoundariesTest::ruleFull);
        sentence("5: How many results there are", PromisesBoundariesTest::results);
        sentence("6: NO: there are not so many", PromisesBoundariesTest::resultNo);
        sentence("7: BAD", PromisesBoundariesTest::isOfBad);
        sentence("8: as few as can be", PromisesBoundariesTest::reasonFewest);
        sentence("8: less where they first differ", PromisesBoundariesTest::reasonLeast);
        sentence("8: BAD", PromisesBoundariesTest::reasonBad);
        sentence("8: NO: it is not of the class", PromisesBoundariesTest::reasonNotOf);
        sentence("8: NO: there are not so many", PromisesBoundariesTest::reasonNotSoMany);
        sentence("9: BAD: no triple", PromisesBoundariesTest::changeNoTriple);
        sentence("9: the weight is not 1 .. 9", PromisesBoundariesTest::changeWeight);
        sentence("9: NO: there is the same one", PromisesBoundariesTest::changeSame);
        sentence("9: FULL", PromisesBoundariesTest::changeFull);
        sentence("10: as far as there is room", PromisesBoundariesTest::suggestRoom);
        sentence("10: there is not the same one", PromisesBoundariesTest::suggestSame);
        sentence("10: the TYPE, if it is there", PromisesBoundariesTest::suggestType);
        sentence("10: kind 0, if y is no object", PromisesBoundariesTest::suggestKind0);
        sentence("10: kind 1, if it is one", PromisesBoundariesTest::suggestKind1);
        sentence("10: kind 2, not of class a", PromisesBoundariesTest::suggestKind2);
        sentence("10: kind 3, if y is a and an object", PromisesBoundariesTest::suggestKind3);
        sentence("10: kind 4, one way and the other", PromisesBoundariesTest::suggestKind4);
        sentence("10: kind 5, if both lead to y", PromisesBoundariesTest::suggestKind5);
        sentence("10: BAD: no such rule, node", PromisesBoundariesTest::suggestBad);
        sentence("10: NO: they are no result", PromisesBoundariesTest::suggestNo);
        sentence("11: how many changes there were", PromisesBoundariesTest::clearHowMany);
        sentence("11: nothing was found or covered", PromisesBoundariesTest::clearNothing);
        sentence("12: BAD: not 1 .. 5000", PromisesBoundariesTest::triesBad);
        sentence("12: So many tries from now on", PromisesBoundariesTest::triesFromNowOn);
        sentence("13: BAD: no such rule, node", PromisesBoundariesTest::findBad);
        sentence("13: BAD: the size is not 1 .. 12", PromisesBoundariesTest::findSize);
        sentence("13: NO: they are no result", PromisesBoundariesTest::findNo);
        sentence("14: (false before)", PromisesBoundariesTest::settledBefore);
        sentence("14: the latest TO FIND or TO COVER", PromisesBoundariesTest::settledLatest);
        sentence("15: How many sets it tried", PromisesBoundariesTest::tried);
        sentence("16: NO: none such", PromisesBoundariesTest::setNo);
        sentence("17: NO", PromisesBoundariesTest::weightNo);
        sentence("17: the least and the greatest sum", PromisesBoundariesTest::weightEdges);
        sentence("18: now", PromisesBoundariesTest::breaksNow);
        sentence("18: NO: none such", PromisesBoundariesTest::breaksNo);
        sentence("19: how many results there are then", PromisesBoundariesTest::applyResults);
        sentence("19: nothing is found any more", PromisesBoundariesTest::applyOnce);
        sentence("19: the changes stay", PromisesBoundariesTest::applyChangesStay);
        sentence("19: NO", PromisesBoundariesTest::applyNo);
        sentence("20: BAD: the size is not 0 .. 12", PromisesBoundariesTest::coverBad);
        sentence("20: NO: there is none", PromisesBoundariesTest::coverNo);
        sentence("20: the empty one's sum", PromisesBoundariesTest::coverEmpty);
        sentence("21: NO", PromisesBoundariesTest::coveredNo);
        sentence("22: how many letters", PromisesBoundariesTest::sentenceLetters);
        sentence("22: NO (what was told stays)", PromisesBoundariesTest::sentenceNo);
        sentence("23: NO", PromisesBoundariesTest::letterNo);
        sentence("23: what was told latest", PromisesBoundariesTest::letterLatest);
        end();
    }

    private static ReportCauses askingForAll(int weight) {
        ReportCauses x = asking(12);
        for (int o = 0; o < 12; o++) {
            x.change(true, 0, 2, o, weight);
        }
        return x;
    }

    private static void noTriples() {
        for (int s = 0; s < 12; s++) {
            ReportCauses x = new ReportCauses();
            for (int code = 0; code < 72; code++) {
                due("drop", x.drop(s, code / 12, code % 12), 0);
            }
            for (int c = 0; c < 12; c++) {
                due("isOf", x.isOf(s, c), 0);
                due("reason", x.reason(s, c, 0), NO);
            }
        }
    }

    private static void noRules() {
        ReportCauses x = new ReportCauses();
        due("results", x.results(), 0);
        due("result", x.result(0), NO);
        for (int r = 0; r < 10; r++) {
            due("find of rule " + r, x.find(r, 0, 1), BAD);
            due("suggest of rule " + r, x.suggest(r, 0), BAD);
        }
        due("the first rule", x.rule(0, 0, 0, 0), 0);
    }

    private static void noChanges() {
        due("clear", new ReportCauses().clear(), 0);
        due("the first change", new ReportCauses().change(true, 0, 0, 0, 1), 0);
        ReportCauses x = new ReportCauses();
        due("cover", x.cover(12), 0);
        due("only the empty set", x.tried(), 1);
    }

    private static void nothingFound() {
        ReportCauses x = new ReportCauses();
        due("set", x.set(0, 0), NO);
        due("weight", x.weight(0), NO);
        due("breaks", x.breaks(0, 0), NO);
        due("sentence", x.sentence(0), NO);
        due("apply", x.apply(0), NO);
        due("covered", x.covered(0), NO);
        due("letter", x.letter(0), NO);
        x.change(true, 0, 0, 0, 1);
        due("set, with a change", x.set(0, 0), NO);
        due("covered, with a change", x.covered(0), NO);
    }

    private static void fiveHundredTries() {
        ReportCauses x = askingForAll(1);
        x.find(0, 0, 12);
        due("find", x.tried(), 500);
        x.cover(12);
        due("cover", x.tried(), 500);
        due("cover, settled", x.settled(), false);
    }

    private static void newBesideFull() {
        ReportCauses full = askingForAll(1);
        full.tries(5000);
        full.find(0, 0, 12);
        full.cover(12);
        full.sentence(0);
        ReportCauses x = new ReportCauses();
        due("triples", x.isOf(0, 11), 0);
        due("found", x.set(0, 0), NO);
        due("covered", x.covered(0), NO);
        due("told", x.letter(0), NO);
        due("settled", x.settled(), false);
        due("tried", x.tried(), 0);
        due("changes", x.clear(), 0);
        due("rules", x.rule(0, 11, 2, 12), 0);
        due("the full one's changes", full.clear(), 12);
    }

    private static void tripleThere() {
        ReportCauses x = new ReportCauses();
        due("it comes", x.triple(3, 2, 4), 1);
        due("it is there", x.triple(3, 2, 4), 0);
        due("another node", x.triple(4, 2, 4), 1);
        due("another predicate", x.triple(3, 3, 4), 1);
        due("another object", x.triple(3, 2, 3), 1);
        x.drop(3, 2, 4);
        due("it comes again", x.triple(3, 2, 4), 1);
    }

    /** Each row of 432 is an object's own, for an object is good for 512 calls. */
    private static void allTriples() {
        for (int half = 0; half < 2; half++) {
            ReportCauses x = new ReportCauses();
            for (int code = 432 * half; code < 432 * half + 432; code++) {
                due("code " + code, x.triple(code / 72, code / 12 % 6, code % 12), 1);
            }
            due("the first is there", x.triple(6 * half, 0, 0), 0);
            due("the last is there", x.triple(6 * half + 5, 5, 11), 0);
            due("no other came", x.drop(6 - 6 * half, 0, 0), 0);
        }
    }

    private static void tripleBad() {
        ReportCauses x = new ReportCauses();
        for (int n : NO_NODES) {
            due("node " + n, x.triple(n, 2, 5), BAD);
            due("object " + n, x.triple(5, 2, n), BAD);
        }
        for (int p : NO_PREDICATES) {
            due("predicate " + p, x.triple(5, p, 5), BAD);
        }
        for (int[] t : NEXT_TO_BAD) {
            due("what it would hit did not come", x.drop(t[0], t[1], t[2]), 0);
        }
    }

    private static void dropNotThere() {
        ReportCauses x = new ReportCauses();
        due("of none", x.drop(3, 2, 4), 0);
        x.triple(3, 2, 4);
        due("another node", x.drop(4, 2, 4), 0);
        due("another predicate", x.drop(3, 1, 4), 0);
        due("another object", x.drop(3, 2, 5), 0);
        due("it goes", x.drop(3, 2, 4), 1);
        due("it is gone", x.drop(3, 2, 4), 0);
    }

    private static void dropBad() {
        ReportCauses x = new ReportCauses();
        for (int[] t : NEXT_TO_BAD) {
            x.triple(t[0], t[1], t[2]);
        }
        for (int n : NO_NODES) {
            due("node " + n, x.drop(n, 2, 5), BAD);
            due("object " + n, x.drop(5, 2, n), BAD);
        }
        for (int p : NO_PREDICATES) {
            due("predicate " + p, x.drop(5, p, 5), BAD);
        }
        for (int[] t : NEXT_TO_BAD) {
            due("what it would hit did not go", x.triple(t[0], t[1], t[2]), 0);
        }
    }

    private static void ruleKind() {
        ReportCauses x = new ReportCauses();
        for (int kind : new int[] {-1, 6, 7, 32, LEAST, MOST}) {
            due("kind " + kind, x.rule(kind, 0, 0, 0), BAD);
        }
        due("the least kind", x.rule(0, 0, 0, 0), 0);
        due("the greatest kind", x.rule(5, 0, 0, 0), 1);
    }

    private static void ruleTargetPredicate() {
        ReportCauses x = new ReportCauses();
        for (int kind = 0; kind < 6; kind++) {
            for (int n : NO_NODES) {
                due("target " + n, x.rule(kind, n, 0, 0), BAD);
            }
            for (int p : NO_PREDICATES) {
                due("predicate " + p, x.rule(kind, 0, p, 0), BAD);
            }
        }
        due("the least ones", x.rule(0, 0, 0, 0), 0);
        due("the greatest ones", x.rule(0, 11, 5, 0), 1);
    }

    private static void ruleEdges(int kind, int mostA) {
        ReportCauses x = new ReportCauses();
        due("kind " + kind + ", a is -1", x.rule(kind, 0, 0, -1), BAD);
        due("kind " + kind + ", a is 0", x.rule(kind, 0, 0, 0), 0);
        due("kind " + kind + ", the most", x.rule(kind, 0, 0, mostA), 1);
        due("kind " + kind + ", one more", x.rule(kind, 0, 0, mostA + 1), BAD);
        due("kind " + kind + ", the least int", x.rule(kind, 0, 0, LEAST), BAD);
        due("kind " + kind + ", the greatest int", x.rule(kind, 0, 0, MOST), BAD);
        due("kind " + kind + ", only two came", x.rule(kind, 0, 0, 0), 2);
    }

    private static void ruleNumberOfObjects() {
        ruleEdges(0, 12);
        ruleEdges(1, 12);
    }

    private static void ruleNode() {
        ruleEdges(2, 11);
        ruleEdges(3, 11);
    }

    private static void ruleOtherPredicate() {
        ruleEdges(4, 5);
        ruleEdges(5, 5);
    }

    private static void ruleFull() {
        ReportCauses x = new ReportCauses();
        x.triple(0, 0, 11);
        for (int r = 0; r < 10; r++) {
            due("rule", x.rule(1, 11, 0, 0), r);
        }
        due("full", x.rule(1, 11, 0, 0), FULL);
        due("full again", x.rule(0, 0, 0, 0), FULL);
        due("what is BAD is so when full", x.rule(6, 0, 0, 0), BAD);
        due("a BAD a when full", x.rule(1, 11, 0, 13), BAD);
        x.clear();
        due("full after clear", x.rule(1, 11, 0, 0), FULL);
        due("ten are asked", x.results(), 10);
    }

    private static void results() {
        ReportCauses x = new ReportCauses();
        for (int n = 0; n < 12; n++) {
            x.triple(n, 0, 0);
        }
        due("no rule", x.results(), 0);
        for (int r = 0; r < 10; r++) {
            x.rule(0, 0, 2, 1);
            due("twelve more", x.results(), 12 * (r + 1));
        }
        x.triple(0, 1, 1);
        due("the most there can be", x.results(), 120);
        for (int n = 0; n < 12; n++) {
            x.triple(n, 2, n);
        }
        due("none", x.results(), 0);
    }

    private static void resultNo() {
        ReportCauses x = asking(1);
        due("the only one", x.result(0), 0);
        due("one beyond", x.result(1), NO);
        for (int i : NO_INDEXES) {
            due("result " + i, x.result(i), NO);
        }
        x.triple(0, 2, 0);
        due("of none", x.result(0), NO);
        for (int i : NO_INDEXES) {
            due("of none, result " + i, x.result(i), NO);
        }
    }

    private static void isOfBad() {
        ReportCauses x = new ReportCauses();
        x.triple(11, 0, 11);
        x.triple(0, 0, 0);
        for (int n : NO_NODES) {
            due("node " + n, x.isOf(n, 0), BAD);
            due("class " + n, x.isOf(0, n), BAD);
            due("both " + n, x.isOf(n, n), BAD);
        }
        due("the least", x.isOf(0, 0), 1);
        due("the greatest", x.isOf(11, 11), 1);
        due("neither", x.isOf(0, 11), 0);
    }

    private static void reasonFewest() {
        ReportCauses x = new ReportCauses();
        x.triple(0, 0, 1);
        x.triple(1, 1, 2);
        x.triple(2, 1, 11);
        due("two BELOWs", reason(x, 0, 11), "1 86 167");
        x.triple(0, 0, 10);
        x.triple(10, 1, 11);
        due("one BELOW, of a greater class", reason(x, 0, 11), "10 743");
        x.triple(0, 0, 11);
        due("no BELOW, of the greatest class", reason(x, 0, 11), "11");
    }

    private static void reasonLeast() {
        ReportCauses x = new ReportCauses();
        x.triple(5, 0, 8);
        x.triple(8, 1, 3);
        x.triple(3, 1, 11);
        x.triple(8, 1, 9);
        x.triple(9, 1, 11);
        due("the second differs", reason(x, 5, 11), "368 591 239");
        x.triple(5, 0, 7);
        x.triple(7, 1, 10);
        x.triple(10, 1, 11);
        due("the first differs, and the second the other way", reason(x, 5, 11), "367 526 743");
        x.triple(5, 0, 0);
        due("a lesser one that leads nowhere", reason(x, 5, 11), "367 526 743");
    }

    private static void reasonBad() {
        ReportCauses x = new ReportCauses();
        x.triple(0, 0, 0);
        x.triple(11, 0, 11);
        for (int n : NO_NODES) {
            due("node " + n, x.reason(n, 0, 0), BAD);
            due("class " + n, x.reason(0, n, 0), BAD);
            due("BAD before NO", x.reason(n, 0, -1), BAD);
        }
        due("the least", x.reason(0, 0, 0), 0);
        due("the greatest", x.reason(11, 11, 0), 803);
    }

    private static void reasonNotOf() {
        ReportCauses x = new ReportCauses();
        due("no triples", x.reason(0, 0, 0), NO);
        x.triple(1, 1, 2);
        due("only a BELOW", x.reason(1, 2, 0), NO);
        x.triple(1, 0, 3);
        due("only another TYPE", x.reason(1, 2, 0), NO);
        due("the other way", x.reason(3, 1, 0), NO);
        x.triple(3, 1, 1);
        due("it is now", x.reason(1, 2, 2), 86);
        x.drop(1, 0, 3);
        due("it is no more", x.reason(1, 2, 0), NO);
    }

    private static void reasonNotSoMany() {
        ReportCauses x = new ReportCauses();
        x.triple(0, 0, 0);
        for (int c = 0; c < 11; c++) {
            x.triple(c, 1, c + 1);
        }
        for (int c = 0; c < 12; c++) {
            due("the last of " + (c + 1), x.reason(0, c, c), c == 0 ? 0 : 72 * (c - 1) + 12 + c);
            due("one beyond", x.reason(0, c, c + 1), NO);
        }
        for (int i : NO_INDEXES) {
            due("reason " + i, x.reason(0, 11, i), NO);
        }
    }

    private static void changeNoTriple() {
        ReportCauses x = new ReportCauses();
        for (int n : NO_NODES) {
            due("put, node " + n, x.change(true, n, 2, 5, 1), BAD);
            due("put, object " + n, x.change(true, 5, 2, n, 1), BAD);
            due("take, node " + n, x.change(false, n, 2, 5, 1), BAD);
            due("take, object " + n, x.change(false, 5, 2, n, 1), BAD);
        }
        for (int p : NO_PREDICATES) {
            due("put, predicate " + p, x.change(true, 5, p, 5, 1), BAD);
            due("take, predicate " + p, x.change(false, 5, p, 5, 1), BAD);
        }
        due("none came", x.clear(), 0);
        due("the least", x.change(false, 0, 0, 0, 1), 0);
        due("the greatest", x.change(true, 11, 5, 11, 1), 1);
    }

    private static void changeWeight() {
        ReportCauses x = new ReportCauses();
        for (int weight : new int[] {0, -1, 10, 32, LEAST, MOST}) {
            due("weight " + weight, x.change(true, 1, 2, 3, weight), BAD);
        }
        due("none came", x.clear(), 0);
        due("weight 1", x.change(true, 1, 2, 3, 1), 0);
        due("weight 9", x.change(false, 1, 2, 3, 9), 1);
        due("BAD before NO", x.change(true, 1, 2, 3, 0), BAD);
    }

    private static void changeSame() {
        ReportCauses x = asking(1);
        x.change(true, 0, 2, 3, 4);
        due("the same", x.change(true, 0, 2, 3, 4), NO);
        due("the same, weight 1", x.change(true, 0, 2, 3, 1), NO);
        due("the same, weight 9", x.change(true, 0, 2, 3, 9), NO);
        due("taken away, it is another", x.change(false, 0, 2, 3, 4), 1);
        due("that one's same", x.change(false, 0, 2, 3, 1), NO);
        x.find(0, 0, 1);
        due("its weight stays", x.weight(0), 4);
        x.clear();
        due("after clear it is not there", x.change(true, 0, 2, 3, 1), 0);
        x.find(0, 0, 1);
        due("its weight is the new one", x.weight(0), 1);
    }

    private static void changeFull() {
        ReportCauses x = new ReportCauses();
        for (int c = 0; c < 12; c++) {
            due("change", x.change(true, 0, 3, c, 1), c);
        }
        due("full", x.change(true, 0, 4, 0, 1), FULL);
        due("full for the other way", x.change(false, 0, 3, 0, 1), FULL);
        due("the same is NO when full", x.change(true, 0, 3, 11, 1), NO);
        due("what is BAD is so when full", x.change(true, 0, 4, 0, 10), BAD);
        due("twelve", x.clear(), 12);
        due("room again", x.change(true, 0, 4, 0, 1), 0);
    }

    private static void suggestRoom() {
        for (int there = 0; there <= 12; there++) {
            ReportCauses x = asking(1);
            for (int o = 0; o < there; o++) {
                x.change(true, 5, 5, o, 1);
            }
            due("with " + there, x.suggest(0, 0), 12 - there);
            due("the TYPE", x.change(false, 0, 0, 11, 1), there < 12 ? NO : FULL);
            for (int y = 0; y < 12; y++) {
                due("y " + y + " with " + there, x.change(true, 0, 2, y, 1), y < 11 - there ? NO : FULL);
            }
            due("no more come", x.suggest(0, 0), 0);
            due("twelve", x.clear(), 12);
        }
    }

    private static void suggestSame() {
        ReportCauses x = asking(1);
        x.change(true, 0, 2, 0, 7);
        x.change(false, 0, 0, 11, 8);
        x.change(false, 0, 2, 1, 6);
        due("all but two, as far as there is room", x.suggest(0, 0), 9);
        due("found", x.find(0, 0, 1), 11);
        due("what was there keeps its weight", weights(x), "1 1 1 1 1 1 1 1 1 7 8");
        due("what takes it away is not the same", set(x, 0), "3");
        due("none come again", x.suggest(0, 0), 0);
    }

    private static void suggestType() {
        ReportCauses x = new ReportCauses();
        x.triple(0, 0, 10);
        x.triple(10, 1, 11);
        x.rule(1, 11, 2, 0);
        x.triple(0, 2, 5);
        due("of the target by a BELOW alone", x.suggest(0, 0), 1);
        x.find(0, 0, 1);
        due("only the object goes", x.sentence(0), 11);
        due("only the object goes", told(x), "take 0 2 5.");
        x.clear();
        x.triple(0, 0, 11);
        due("with the TYPE", x.suggest(0, 0), 2);
        due("the TYPE goes first", x.change(false, 0, 0, 11, 1), NO);
        due("the other TYPE stays", x.change(false, 0, 0, 10, 1), 2);
    }

    private static void suggestKind0() {
        ReportCauses x = new ReportCauses();
        x.triple(0, 0, 10);
        x.triple(10, 1, 11);
        x.rule(0, 11, 2, 12);
        due("no object, all twelve", x.suggest(0, 0), 12);
        x.clear();
        for (int o = 1; o < 11; o++) {
            x.triple(0, 2, o);
        }
        due("ten objects", x.suggest(0, 0), 2);
        due("the first y", x.change(true, 0, 2, 0, 1), NO);
        due("the last y", x.change(true, 0, 2, 11, 1), NO);
    }

    private static void suggestKind1() {
        due("the first and the last y", suggested(1, 2, 1, new int[][] {
            {1, 2, 0}, {1, 2, 11}}), "3: take 1 0 11. take 1 2 0. take 1 2 11.");
        ReportCauses x = new ReportCauses();
        x.triple(1, 0, 11);
        x.rule(1, 11, 2, 11);
        for (int o = 0; o < 12; o++) {
            x.triple(1, 2, o);
        }
        due("all twelve and the TYPE, as far as there is room", x.suggest(0, 1), 12);
        due("the last y has none", x.change(false, 1, 2, 11, 1), FULL);
        due("the one before has", x.change(false, 1, 2, 10, 1), NO);
    }

    private static void suggestKind2() {
        due("one y that is not, one that is", suggested(2, 2, 9, new int[][] {
            {1, 2, 0}, {1, 2, 5}, {5, 0, 8}, {8, 1, 9}}),
            "3: take 1 0 11. take 1 2 0. put 0 0 9.");
        due("y is the class and of it", suggested(2, 2, 9, new int[][] {
            {1, 2, 9}, {9, 0, 9}, {1, 2, 11}}), "3: take 1 0 11. take 1 2 11. put 11 0 9.");
        ReportCauses x = new ReportCauses();
        x.triple(1, 0, 11);
        x.rule(2, 11, 2, 9);
        for (int o = 0; o < 12; o++) {
            x.triple(1, 2, o);
        }
        due("as far as there is room", x.suggest(0, 1), 12);
        due("the TYPE, then five y, then half of one", x.change(false, 1, 2, 5, 1), NO);
        due("the other half has no room", x.change(true, 5, 0, 9, 1), FULL);
        due("the y before has both", x.change(true, 4, 0, 9, 1), NO);
    }

    private static void suggestKind3() {
        due("y is a", suggested(3, 2, 11, new int[][] {
            {1, 2, 0}, {1, 2, 10}, {1, 2, 11}}), "2: take 1 0 11. take 1 2 11.");
        due("the first y", suggested(3, 2, 0, new int[][] {
            {1, 2, 0}, {1, 2, 1}}), "2: take 1 0 11. take 1 2 0.");
        due("the TYPE itself comes once", suggested(3, 0, 11, new int[][] {}), "1: take 1 0 11.");
    }

    private static void suggestKind4() {
        due("p leads to it, a does not", suggested(4, 2, 3, new int[][] {
            {1, 2, 0}, {1, 2, 5}, {1, 3, 5}}), "3: take 1 0 11. take 1 2 0. put 1 3 0.");
        due("a leads to it, p does not", suggested(4, 2, 3, new int[][] {
            {1, 3, 11}, {1, 2, 5}, {1, 3, 5}}),
            "3: take 1 0 11. put 1 2 11. take 1 3 11.");
    }

    private static void suggestKind5() {
        due("both lead to it", suggested(5, 2, 3, new int[][] {
            {1, 2, 0}, {1, 3, 0}, {1, 2, 5}, {1, 3, 6}}),
            "3: take 1 0 11. take 1 2 0. take 1 3 0.");
        due("a predicate with itself, once each", suggested(5, 2, 2, new int[][] {
            {1, 2, 11}}), "2: take 1 0 11. take 1 2 11.");
    }

    private static void suggestBad() {
        ReportCauses x = asking(1);
        for (int n : NO_NODES) {
            due("node " + n, x.suggest(0, n), BAD);
            due("rule " + n, x.suggest(n, 0), BAD);
        }
        due("one beyond the rules", x.suggest(1, 0), BAD);
        due("no rule and no result", x.suggest(1, 5), BAD);
        due("none came", x.clear(), 0);
    }

    private static void suggestNo() {
        ReportCauses x = asking(1);
        due("not of the target", x.suggest(0, 1), NO);
        x.triple(0, 2, 0);
        due("it holds", x.suggest(0, 0), NO);
        due("none came", x.clear(), 0);
        x.drop(0, 2, 0);
        due("a result again", x.suggest(0, 0), 12);
        x.triple(0, 2, 0);
        due("no result when there is no room", x.suggest(0, 0), NO);
    }

    private static void clearHowMany() {
        ReportCauses x = new ReportCauses();
        due("none", x.clear(), 0);
        x.change(true, 0, 0, 0, 1);
        due("one", x.clear(), 1);
        due("none again", x.clear(), 0);
        for (int c = 0; c < 12; c++) {
            x.change(false, c, 0, 0, 1);
        }
        due("twelve", x.clear(), 12);
    }

    private static void clearNothing() {
        ReportCauses x = asking(1);
        x.suggest(0, 0);
        x.cover(1);
        x.find(0, 0, 1);
        x.clear();
        due("set", x.set(0, 0), NO);
        due("weight", x.weight(0), NO);
        due("breaks", x.breaks(0, 0), NO);
        due("sentence", x.sentence(0), NO);
        due("apply", x.apply(0), NO);
        due("covered", x.covered(0), NO);
        due("triples and rules stay", x.results(), 1);
    }

    private static void triesBad() {
        ReportCauses x = askingForAll(1);
        x.tries(7);
        for (int n : new int[] {0, -1, 5001, LEAST, MOST}) {
            due("tries " + n, x.tries(n), BAD);
            x.find(0, 0, 12);
            due("as many as before", x.tried(), 7);
        }
        due("the least", x.tries(1), 1);
        due("the most", x.tries(5000), 5000);
    }

    private static void triesFromNowOn() {
        ReportCauses x = askingForAll(1);
        x.tries(3);
        for (int again = 0; again < 2; again++) {
            x.find(0, 0, 12);
            due("find", x.tried(), 3);
            x.cover(12);
            due("cover", x.tried(), 3);
        }
        x.tries(1);
        due("before the next, nothing changes", x.tried(), 3);
        x.find(0, 0, 12);
        due("the least", x.tried(), 1);
        x.tries(5000);
        x.find(0, 0, 12);
        due("the most", x.tried(), 4095);
    }

    private static void findBad() {
        ReportCauses x = asking(1);
        for (int n : NO_NODES) {
            due("rule " + n, x.find(n, 0, 1), BAD);
            due("node " + n, x.find(0, n, 1), BAD);
        }
        due("one beyond the rules", x.find(1, 0, 1), BAD);
        due("no rule, no result", x.find(1, 1, 1), BAD);
        due("nothing was done", x.settled(), false);
    }

    private static void findSize() {
        ReportCauses x = asking(1);
        for (int size : NO_SIZES_OF_FIND) {
            due("size " + size, x.find(0, 0, size), BAD);
            due("size " + size + ", no result", x.find(0, 1, size), BAD);
        }
        due("nothing was done", x.settled(), false);
        x.change(true, 0, 2, 0, 1);
        due("the least size", x.find(0, 0, 1), 1);
        due("the greatest size", x.find(0, 0, 12), 1);
    }

    private static void findNo() {
        ReportCauses x = asking(1);
        x.change(true, 0, 2, 0, 1);
        x.find(0, 0, 1);
        due("not of the target", x.find(0, 1, 1), NO);
        due("what was found stays", sets(x), "0");
        x.triple(0, 2, 5);
        due("it holds", x.find(0, 0, 12), NO);
        due("what was found stays", sets(x), "0");
        due("settled stays", x.settled(), true);
        due("tried stays", x.tried(), 1);
    }

    private static void settledBefore() {
        ReportCauses x = asking(1);
        due("a new object", x.settled(), false);
        x.suggest(0, 0);
        x.find(0, 1, 1);
        x.find(0, 0, 0);
        x.cover(13);
        due("after refusals", x.settled(), false);
        x.find(0, 0, 1);
        due("after one that is settled", x.settled(), true);
    }

    private static void settledLatest() {
        ReportCauses x = asking(1);
        x.change(true, 0, 2, 0, 1);
        x.cover(0);
        due("a cover that is NO can be settled", x.settled(), true);
        x.tries(1);
        x.cover(1);
        due("a cover with too few tries", x.settled(), false);
        x.find(0, 0, 1);
        due("a find with just enough", x.settled(), true);
        x.cover(1);
        due("the cover again", x.settled(), false);
        x.find(0, 0, 1);
        x.find(0, 1, 1);
        x.find(0, 0, 13);
        x.cover(-1);
        due("refusals", x.settled(), true);
        x.apply(0);
        x.clear();
        due("apply and clear", x.settled(), true);
    }

    private static void tried() {
        ReportCauses x = asking(1);
        due("before", x.tried(), 0);
        x.find(0, 1, 1);
        x.cover(13);
        due("after refusals", x.tried(), 0);
        x.cover(0);
        due("the empty set", x.tried(), 1);
        x.find(0, 0, 1);
        due("no changes", x.tried(), 0);
        x.suggest(0, 0);
        x.find(0, 0, 12);
        due("passed over are not tried", x.tried(), 12);
        x.tries(5000);
        x.cover(12);
        due("the most", x.tried(), 4096);
        x.find(0, 1, 1);
        x.cover(13);
        x.clear();
        due("refusals and clear", x.tried(), 4096);
    }

    private static void setNo() {
        ReportCauses x = asking(2);
        for (int o = 0; o < 9; o++) {
            x.change(true, 0, 2, o, 1);
        }
        due("found", x.find(0, 0, 2), 30);
        due("the last set's last", x.set(29, 1), 8);
        due("one change beyond", x.set(29, 2), NO);
        due("one set beyond", x.set(30, 0), NO);
        for (int n : NO_INDEXES) {
            due("set " + n, x.set(n, 0), NO);
            due("change " + n, x.set(0, n), NO);
        }
        due("change 32, which a shift would take for 0", x.set(0, 32), NO);
        due("set 32", x.set(32, 0), NO);
        x.find(0, 0, 1);
        due("of none", x.set(0, 0), NO);
    }

    private static void weightNo() {
        ReportCauses x = asking(1);
        x.suggest(0, 0);
        x.find(0, 0, 1);
        due("the last", x.weight(11), 1);
        due("one beyond", x.weight(12), NO);
        for (int n : NO_INDEXES) {
            due("weight " + n, x.weight(n), NO);
        }
        x.drop(0, 0, 11);
        x.apply(0);
        due("of none", x.weight(0), NO);
    }

    private static void weightEdges() {
        ReportCauses x = askingForAll(9);
        x.tries(5000);
        x.find(0, 0, 12);
        due("twelve of weight 9", weights(x), "108");
        ReportCauses y = asking(1);
        y.change(true, 0, 2, 0, 1);
        y.find(0, 0, 1);
        due("one of weight 1", weights(y), "1");
    }

    private static void breaksNow() {
        ReportCauses x = asking(1);
        x.change(true, 0, 2, 5, 1);
        x.find(0, 0, 1);
        due("nothing yet", breaks(x, 0), "");
        x.rule(3, 11, 2, 5);
        due("a rule came", breaks(x, 0), "12");
        x.triple(0, 2, 5);
        due("it is a result already", breaks(x, 0), "");
        x.drop(0, 2, 5);
        x.triple(0, 0, 4);
        x.rule(1, 4, 2, 0);
        due("another class", breaks(x, 0), "12 24");
        x.drop(0, 0, 11);
        due("no more of the first class", breaks(x, 0), "24");
    }

    private static void breaksNo() {
        ReportCauses x = asking(1);
        for (int r = 1; r < 10; r++) {
            x.rule(1, 11, 2, 0);
        }
        x.change(true, 0, 2, 5, 1);
        x.find(0, 0, 1);
        due("all that it breaks", breaks(x, 0), "12 24 36 48 60 72 84 96 108");
        due("the last", x.breaks(0, 8), 108);
        due("one beyond", x.breaks(0, 9), NO);
        due("one set beyond", x.breaks(1, 0), NO);
        for (int n : NO_INDEXES) {
            due("set " + n, x.breaks(n, 0), NO);
            due("result " + n, x.breaks(0, n), NO);
        }
        x.clear();
        due("of none", x.breaks(0, 0), NO);
    }

    private static void applyResults() {
        ReportCauses x = asking(1);
        x.rule(1, 11, 2, 0);
        x.rule(3, 11, 2, 5);
        x.change(true, 0, 2, 5, 1);
        x.change(false, 0, 0, 11, 1);
        x.find(0, 0, 1);
        due("one cleared, two broken", x.apply(0), 2);
        x.find(1, 0, 1);
        due("the TYPE goes, and all with it", x.apply(0), 0);
        due("no more of the class", x.isOf(0, 11), 0);
    }

    private static void applyOnce() {
        ReportCauses x = asking(1);
        x.suggest(0, 0);
        x.find(0, 0, 1);
        due("done", x.apply(11), 0);
        due("not done again", x.apply(11), NO);
        due("set", x.set(0, 0), NO);
        due("weight", x.weight(0), NO);
        due("breaks", x.breaks(0, 0), NO);
        due("sentence", x.sentence(0), NO);
    }

    private static void applyChangesStay() {
        ReportCauses x = asking(1);
        x.suggest(0, 0);
        x.find(0, 0, 1);
        x.apply(1);
        due("the one that was done", x.change(true, 0, 2, 0, 1), NO);
        due("no room", x.change(true, 0, 2, 11, 1), FULL);
        x.drop(0, 2, 0);
        due("found again", x.find(0, 0, 1), 12);
        due("twelve", x.clear(), 12);
    }

    private static void applyNo() {
        ReportCauses x = asking(1);
        x.change(true, 0, 2, 0, 1);
        due("before any find", x.apply(0), NO);
        x.find(0, 0, 1);
        due("one beyond", x.apply(1), NO);
        for (int n : NO_INDEXES) {
            due("apply " + n, x.apply(n), NO);
        }
        due("nothing was done", x.results(), 1);
        due("what was found stays", sets(x), "0");
        due("the last", x.apply(0), 0);
    }

    private static void coverBad() {
        ReportCauses x = asking(1);
        x.change(true, 0, 2, 0, 3);
        x.cover(1);
        for (int size : NO_SIZES_OF_COVER) {
            due("size " + size, x.cover(size), BAD);
        }
        due("what was covered stays", covered(x), "0");
        due("tried stays", x.tried(), 2);
        due("the greatest size", x.cover(12), 3);
        due("the least size", x.cover(0), NO);
    }

    private static void coverNo() {
        ReportCauses x = asking(1);
        due("no changes", x.cover(12), NO);
        x.change(true, 0, 2, 0, 3);
        due("size 0", x.cover(0), NO);
        due("size 1", x.cover(1), 3);
        due("covered", covered(x), "0");
        x.tries(1);
        due("too few tries", x.cover(1), NO);
        due("nothing is covered then", covered(x), "");
        x.tries(2);
        due("just enough tries", x.cover(1), 3);
        x.rule(0, 11, 3, 1);
        due("another result stays", x.cover(12), NO);
        due("nothing is covered then", covered(x), "");
    }

    private static void coverEmpty() {
        ReportCauses x = new ReportCauses();
        due("nothing at all, size 0", x.cover(0), 0);
        due("nothing at all, size 12", x.cover(12), 0);
        due("nothing is in it", x.covered(0), NO);
        x.change(true, 0, 0, 0, 1);
        due("with a change", x.cover(12), 0);
        due("nothing is in it", x.covered(0), NO);
    }

    private static void coveredNo() {
        ReportCauses x = askingForAll(1);
        due("before", x.covered(0), NO);
        x.tries(5000);
        x.cover(12);
        due("the first", x.covered(0), 0);
        due("the last", x.covered(11), 11);
        due("one beyond", x.covered(12), NO);
        due("32, which a shift would take for 0", x.covered(32), NO);
        for (int k : NO_INDEXES) {
            due("covered " + k, x.covered(k), NO);
        }
    }

    private static void sentenceLetters() {
        ReportCauses x = new ReportCauses();
        x.triple(9, 0, 11);
        x.rule(0, 11, 5, 1);
        x.change(true, 9, 5, 9, 1);
        x.change(false, 9, 0, 11, 2);
        x.find(0, 9, 1);
        due("the shortest", x.sentence(0), 10);
        due("the shortest", told(x), "put 9 5 9.");
        due("two digits", x.sentence(1), 12);
        due("two digits", told(x), "take 9 0 11.");
        x.clear();
        x.rule(1, 11, 2, 0);
        x.tries(5000);
        StringBuilder all = new StringBuilder();
        for (int o = 0; o < 12; o++) {
            x.triple(9, 2, o);
            x.change(false, 9, 2, o, 1);
            all.append(o == 0 ? "" : ", ").append("take 9 2 ").append(o);
        }
        x.find(1, 9, 12);
        due("twelve changes", x.sentence(0), 145);
        due("twelve changes", told(x), all.append('.').toString());
    }

    private static void sentenceNo() {
        ReportCauses x = asking(1);
        due("before any find", x.sentence(0), NO);
        due("nothing was told", told(x), "");
        x.change(true, 0, 2, 3, 1);
        x.find(0, 0, 1);
        x.sentence(0);
        due("one beyond", x.sentence(1), NO);
        for (int n : NO_INDEXES) {
            due("sentence " + n, x.sentence(n), NO);
        }
        due("what was told stays", told(x), "put 0 2 3.");
        x.clear();
        due("of none", x.sentence(0), NO);
        due("what was told stays over clear", told(x), "put 0 2 3.");
    }

    private static void letterNo() {
        ReportCauses x = asking(1);
        due("nothing was told", x.letter(0), NO);
        for (int k : NO_INDEXES) {
            due("nothing was told, letter " + k, x.letter(k), NO);
        }
        x.change(true, 0, 2, 3, 1);
        x.find(0, 0, 1);
        due("found but not told", x.letter(0), NO);
        due("told", x.sentence(0), 10);
        due("the first", x.letter(0), 'p');
        due("the last", x.letter(9), '.');
        due("one beyond", x.letter(10), NO);
        for (int k : NO_INDEXES) {
            due("letter " + k, x.letter(k), NO);
        }
    }

    private static void letterLatest() {
        ReportCauses x = asking(1);
        x.suggest(0, 0);
        x.find(0, 0, 1);
        x.sentence(0);
        due("the longer", told(x), "take 0 0 11.");
        x.sentence(1);
        due("then the shorter", told(x), "put 0 2 0.");
        due("nothing of the longer behind it", x.letter(11), NO);
        x.sentence(0);
        x.sentence(12);
        due("then a refused one", told(x), "take 0 0 11.");
        x.apply(1);
        due("after apply", told(x), "take 0 0 11.");
    }
}
