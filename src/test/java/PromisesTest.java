/** The promises of the document one by one: ordinary calls, the edges it names, wrong inputs. */
public final class PromisesTest extends Expect {
    public static void main(String[] args) {
        promise1NewObject();
        promise2Triple();
        promise3Drop();
        promise4Rule();
        promise4Kinds();
        promise5And6Results();
        promise7IsOf();
        promise8Reason();
        promise8LongestReason();
        promise9Change();
        promise10SuggestKinds0To3();
        promise10SuggestKinds4And5();
        promise10SuggestRoom();
        promise11Clear();
        promise12Tries();
        promise13Find();
        promise13FindOrder();
        promise13FindSame();
        promise13FindAtTheEdges();
        promise14And15SettledTried();
        promise16Set();
        promise17Weight();
        promise18Breaks();
        promise19Apply();
        promise20Cover();
        promise20CoverTies();
        promise20CoverOfTenRules();
        promise21Covered();
        promise22Sentence();
        promise22LongSentence();
        promise23Letter();
        end();
    }

    private static void promise1NewObject() {
        ReportCauses x = new ReportCauses();
        due("1 results", x.results(), 0);
        due("1 result", x.result(0), NO);
        due("1 isOf", x.isOf(0, 0), 0);
        due("1 settled", x.settled(), false);
        due("1 tried", x.tried(), 0);
        due("1 set", x.set(0, 0), NO);
        due("1 weight", x.weight(0), NO);
        due("1 breaks", x.breaks(0, 0), NO);
        due("1 apply", x.apply(0), NO);
        due("1 covered", x.covered(0), NO);
        due("1 sentence", x.sentence(0), NO);
        due("1 letter", x.letter(0), NO);
        due("1 drop", x.drop(0, 0, 0), 0);
        due("1 find", x.find(0, 0, 1), BAD);
        due("1 suggest", x.suggest(0, 0), BAD);
        due("1 clear", x.clear(), 0);
        ReportCauses y = asking(12);
        for (int o = 0; o < 12; o++) {
            y.change(true, 0, 2, o, 1);
        }
        due("1 find with 500 tries", y.find(0, 0, 12), 0);
        due("1 500 tries", y.tried(), 500);
        due("1 500 tries settled", y.settled(), false);
    }

    private static void promise2Triple() {
        ReportCauses x = new ReportCauses();
        for (int s = 0; s < 12; s += 11) {
            for (int p = 0; p < 6; p++) {
                for (int o = 0; o < 12; o++) {
                    due("2 new", x.triple(s, p, o), 1);
                    due("2 there", x.triple(s, p, o), 0);
                }
            }
        }
        for (int n : NO_NODES) {
            due("2 bad s", x.triple(n, 0, 0), BAD);
            due("2 bad o", x.triple(0, 0, n), BAD);
        }
        for (int p : NO_PREDICATES) {
            due("2 bad p", x.triple(0, p, 0), BAD);
        }
    }

    private static void promise3Drop() {
        ReportCauses x = new ReportCauses();
        x.triple(3, 2, 4);
        due("3 other s", x.drop(4, 2, 4), 0);
        due("3 other p", x.drop(3, 3, 4), 0);
        due("3 other o", x.drop(3, 2, 3), 0);
        due("3 there", x.drop(3, 2, 4), 1);
        due("3 gone", x.drop(3, 2, 4), 0);
        due("3 again", x.triple(3, 2, 4), 1);
        for (int n : NO_NODES) {
            due("3 bad s", x.drop(n, 0, 0), BAD);
            due("3 bad o", x.drop(0, 0, n), BAD);
        }
        for (int p : NO_PREDICATES) {
            due("3 bad p", x.drop(0, p, 0), BAD);
        }
        x.triple(0, 0, 5);
        x.triple(5, 1, 6);
        x.drop(5, 1, 6);
        due("3 below gone", x.isOf(0, 6), 0);
        due("3 type stays", x.isOf(0, 5), 1);
    }

    private static void promise4Rule() {
        ReportCauses x = new ReportCauses();
        int[] mostA = {12, 12, 11, 11, 5, 5};
        for (int kind = 0; kind < 6; kind++) {
            due("4 a above", x.rule(kind, 0, 0, mostA[kind] + 1), BAD);
            due("4 a below", x.rule(kind, 0, 0, -1), BAD);
            due("4 most a", x.rule(kind, 11, 5, mostA[kind]), kind);
            for (int n : NO_NODES) {
                due("4 bad target", x.rule(kind, n, 0, 0), BAD);
            }
            for (int p : NO_PREDICATES) {
                due("4 bad p", x.rule(kind, 0, p, 0), BAD);
            }
        }
        due("4 bad kind", x.rule(6, 0, 0, 0), BAD);
        due("4 bad kind", x.rule(-1, 0, 0, 0), BAD);
        for (int rule = 6; rule < 10; rule++) {
            due("4 least a", x.rule(rule - 4, 0, 0, 0), rule);
        }
        due("4 full", x.rule(0, 0, 0, 0), FULL);
        due("4 bad before full", x.rule(6, 0, 0, 0), BAD);
    }

    /** Each kind at the edge between holding and not. */
    private static void promise4Kinds() {
        ReportCauses x = new ReportCauses();
        x.triple(1, 0, 10);
        x.triple(1, 2, 3);
        x.triple(1, 2, 4);
        x.rule(0, 10, 2, 2);
        x.rule(0, 10, 2, 3);
        x.rule(1, 10, 2, 2);
        x.rule(1, 10, 2, 1);
        x.rule(2, 10, 2, 7);
        x.rule(3, 10, 2, 4);
        x.rule(3, 10, 2, 1);
        x.rule(4, 10, 2, 3);
        x.rule(5, 10, 2, 3);
        due("4 kinds", results(x), "13 37 49 61 85");
        x.triple(1, 3, 3);
        due("4 share one", results(x), "13 37 49 61 85 97");
        x.triple(1, 3, 4);
        due("4 same", results(x), "13 37 49 61 97");
        x.triple(3, 0, 7);
        due("4 one of the class", results(x), "13 37 49 61 97");
        x.triple(4, 0, 8);
        x.triple(8, 1, 7);
        due("4 all of the class", results(x), "13 37 61 97");
    }

    private static void promise5And6Results() {
        ReportCauses x = new ReportCauses();
        x.rule(0, 9, 2, 1);
        x.rule(1, 9, 3, 0);
        due("5 none", x.results(), 0);
        x.triple(11, 0, 9);
        x.triple(4, 0, 8);
        x.triple(8, 1, 9);
        x.triple(4, 3, 4);
        due("5 three", x.results(), 3);
        due("6 sorted", results(x), "4 11 16");
        for (int i : NO_INDEXES) {
            due("6 not so many", x.result(i), NO);
        }
        due("6 not so many", x.result(3), NO);
        x.triple(11, 2, 0);
        due("5 one less", x.results(), 2);
        x.drop(8, 1, 9);
        due("5 none any more", x.results(), 0);
        ReportCauses y = new ReportCauses();
        for (int rule = 0; rule < 10; rule++) {
            y.rule(0, 0, 2, 1);
        }
        for (int n = 0; n < 12; n++) {
            y.triple(n, 0, 0);
        }
        due("5 most", y.results(), 120);
        due("6 most", y.result(119), 119);
        due("6 most", y.result(120), NO);
    }

    private static void promise7IsOf() {
        ReportCauses x = new ReportCauses();
        x.triple(0, 0, 1);
        x.triple(1, 1, 2);
        x.triple(2, 1, 3);
        x.triple(3, 1, 1);
        x.triple(5, 1, 6);
        due("7 type", x.isOf(0, 1), 1);
        due("7 one below", x.isOf(0, 2), 1);
        due("7 two below", x.isOf(0, 3), 1);
        due("7 other", x.isOf(0, 6), 0);
        due("7 a class has no type", x.isOf(1, 2), 0);
        due("7 a node is not of itself", x.isOf(0, 0), 0);
        x.triple(0, 0, 5);
        due("7 second type", x.isOf(0, 6), 1);
        for (int n : NO_NODES) {
            due("7 bad node", x.isOf(n, 0), BAD);
            due("7 bad class", x.isOf(0, n), BAD);
        }
    }

    private static void promise8Reason() {
        ReportCauses x = new ReportCauses();
        x.triple(0, 0, 9);
        x.triple(0, 0, 4);
        x.triple(9, 1, 8);
        x.triple(9, 1, 7);
        x.triple(4, 1, 5);
        x.triple(5, 1, 6);
        x.triple(8, 1, 3);
        x.triple(7, 1, 3);
        x.triple(6, 1, 3);
        due("8 few before less", reason(x, 0, 3), "9 667 519");
        x.triple(4, 1, 10);
        x.triple(10, 1, 3);
        due("8 less where they first differ", reason(x, 0, 3), "4 310 735");
        x.triple(0, 0, 3);
        due("8 type alone", reason(x, 0, 3), "3");
        due("8 not of it", x.reason(0, 11, 0), NO);
        due("8 no type", x.reason(9, 8, 0), NO);
        for (int i : NO_INDEXES) {
            due("8 not so many", x.reason(0, 3, i), NO);
        }
        for (int n : NO_NODES) {
            due("8 bad node", x.reason(n, 3, 0), BAD);
            due("8 bad class", x.reason(0, n, -1), BAD);
        }
    }

    private static void promise8LongestReason() {
        ReportCauses x = new ReportCauses();
        x.triple(11, 0, 11);
        for (int c = 11; c > 0; c--) {
            x.triple(c, 1, c - 1);
            x.triple(c, 1, 11);
        }
        due("8 longest, type", x.reason(11, 0, 0), 72 * 11 + 11);
        for (int i = 1; i < 12; i++) {
            due("8 longest", x.reason(11, 0, i), 72 * (12 - i) + 12 + 11 - i);
        }
        due("8 longest, end", x.reason(11, 0, 12), NO);
    }

    private static void promise9Change() {
        ReportCauses x = new ReportCauses();
        due("9 first", x.change(true, 0, 2, 1, 1), 0);
        due("9 same", x.change(true, 0, 2, 1, 1), NO);
        due("9 same, other weight", x.change(true, 0, 2, 1, 9), NO);
        due("9 takes the same", x.change(false, 0, 2, 1, 9), 1);
        due("9 weight 0", x.change(true, 0, 2, 2, 0), BAD);
        due("9 weight 10", x.change(true, 0, 2, 2, 10), BAD);
        due("9 bad before no", x.change(true, 0, 2, 1, 10), BAD);
        for (int n : NO_NODES) {
            due("9 bad s", x.change(true, n, 2, 1, 1), BAD);
            due("9 bad o", x.change(true, 0, 2, n, 1), BAD);
            due("9 bad weight", x.change(true, 5, 5, 5, n), BAD);
        }
        for (int p : NO_PREDICATES) {
            due("9 bad p", x.change(true, 0, p, 1, 1), BAD);
        }
        for (int o = 2; o < 12; o++) {
            due("9 more", x.change(true, 11, 5, o, 9), o);
        }
        due("9 full", x.change(true, 0, 2, 2, 1), FULL);
        due("9 no before full", x.change(false, 0, 2, 1, 1), NO);
        due("9 bad before full", x.change(true, 0, 2, 12, 1), BAD);
        due("9 changes do nothing", x.drop(0, 2, 1), 0);
    }

    private static void promise10SuggestKinds0To3() {
        due("10 kind 0", suggested(0, 2, 10, new int[][] {{1, 2, 0}, {1, 2, 1}, {1, 2, 2},
            {1, 2, 3}, {1, 2, 4}, {1, 2, 5}, {1, 2, 7}, {1, 2, 8}, {1, 2, 10}}),
            "4: take 1 0 11. put 1 2 6. put 1 2 9. put 1 2 11.");
        due("10 kind 1", suggested(1, 2, 2, new int[][] {{1, 2, 0}, {1, 2, 5}, {1, 2, 11}}),
            "4: take 1 0 11. take 1 2 0. take 1 2 5. take 1 2 11.");
        due("10 kind 1, of types", suggested(1, 0, 1, new int[][] {{1, 0, 3}}),
            "2: take 1 0 11. take 1 0 3.");
        due("10 kind 2", suggested(2, 2, 7, new int[][] {{1, 2, 0}, {1, 2, 5}, {0, 0, 8}, {8, 1, 7}}),
            "3: take 1 0 11. take 1 2 5. put 5 0 7.");
        due("10 kind 3", suggested(3, 2, 7, new int[][] {{1, 2, 6}, {1, 2, 7}, {1, 2, 8}}),
            "2: take 1 0 11. take 1 2 7.");
    }

    private static void promise10SuggestKinds4And5() {
        due("10 kind 4", suggested(4, 2, 3, new int[][] {{1, 2, 6}, {1, 2, 7}, {1, 3, 7}}),
            "3: take 1 0 11. take 1 2 6. put 1 3 6.");
        due("10 kind 4, the other way round", suggested(4, 2, 3, new int[][] {{1, 3, 6}}),
            "3: take 1 0 11. put 1 2 6. take 1 3 6.");
        due("10 kind 5", suggested(5, 3, 2, new int[][] {{1, 2, 6}, {1, 3, 6}, {1, 2, 5}, {1, 3, 4}}),
            "3: take 1 0 11. take 1 3 6. take 1 2 6.");
        due("10 kind 5, with itself", suggested(5, 2, 2, new int[][] {{1, 2, 6}}),
            "2: take 1 0 11. take 1 2 6.");
    }

    private static void promise10SuggestRoom() {
        ReportCauses x = new ReportCauses();
        x.triple(1, 0, 10);
        x.triple(10, 1, 11);
        x.rule(0, 11, 2, 1);
        x.rule(1, 11, 2, 12);
        due("10 bad rule", x.suggest(2, 1), BAD);
        for (int n : NO_NODES) {
            due("10 bad rule", x.suggest(n, 1), BAD);
            due("10 bad node", x.suggest(0, n), BAD);
        }
        due("10 no result, holds", x.suggest(1, 1), NO);
        due("10 no result, not of it", x.suggest(0, 2), NO);
        x.change(true, 1, 2, 3, 7);
        x.change(true, 5, 5, 5, 1);
        due("10 no such type, one there, room for ten", x.suggest(0, 1), 10);
        due("10 the last that came", x.change(true, 1, 2, 10, 1), NO);
        due("10 none beyond", x.change(true, 1, 2, 11, 1), FULL);
        due("10 weight of what was there stays", x.find(0, 1, 1), 11);
        due("10 weight of what was there", x.weight(10), 7);
        due("10 weight 1", x.weight(9), 1);
        due("10 no room", x.suggest(0, 1), 0);
    }

    private static void promise11Clear() {
        ReportCauses x = asking(1);
        x.change(true, 0, 2, 5, 3);
        x.change(true, 0, 2, 6, 4);
        x.tries(7);
        x.find(0, 0, 2);
        x.cover(2);
        x.find(0, 0, 2);
        x.sentence(0);
        due("11 how many", x.clear(), 2);
        due("11 nothing found", x.set(0, 0), NO);
        due("11 no weight", x.weight(0), NO);
        due("11 no breaks", x.breaks(0, 0), NO);
        due("11 no apply", x.apply(0), NO);
        due("11 no sentence", x.sentence(0), NO);
        due("11 nothing covered", x.covered(0), NO);
        due("11 told stays", told(x), "put 0 2 5.");
        due("11 settled stays", x.settled(), true);
        due("11 tried stays", x.tried(), 2);
        due("11 results stay", x.results(), 1);
        due("11 again", x.clear(), 0);
        due("11 numbers from 0", x.change(true, 0, 2, 5, 3), 0);
        x.clear();
        for (int o = 0; o < 12; o++) {
            x.change(true, 0, 3, o, 1);
        }
        x.find(0, 0, 12);
        due("11 tries stay", x.tried(), 7);
        due("11 twelve", x.clear(), 12);
    }

    private static void promise12Tries() {
        ReportCauses x = asking(1);
        x.tries(2);
        int[] no = {0, -1, 5001, Integer.MIN_VALUE, Integer.MAX_VALUE};
        for (int n : no) {
            due("12 bad", x.tries(n), BAD);
        }
        for (int o = 0; o < 12; o++) {
            x.change(true, 0, 3, o, 1);
        }
        x.find(0, 0, 12);
        due("12 bad changes nothing", x.tried(), 2);
        due("12 least", x.tries(1), 1);
        x.cover(12);
        due("12 least tried", x.tried(), 1);
        due("12 most", x.tries(5000), 5000);
        x.find(0, 0, 12);
        due("12 all tried", x.tried(), 4095);
        x.cover(12);
        due("12 all tried, with the empty one", x.tried(), 4096);
        due("12 settled", x.settled(), true);
    }

    private static void promise13Find() {
        ReportCauses x = asking(2);
        x.rule(1, 11, 2, 12);
        for (int n : NO_NODES) {
            due("13 bad rule", x.find(n, 0, 1), BAD);
            due("13 bad node", x.find(0, n, 1), BAD);
        }
        due("13 bad rule", x.find(2, 0, 1), BAD);
        int[] noSizes = {0, -1, 13, Integer.MIN_VALUE, Integer.MAX_VALUE};
        for (int n : noSizes) {
            due("13 bad size", x.find(0, 0, n), BAD);
        }
        due("13 bad before no", x.find(1, 0, 0), BAD);
        due("13 no changes", x.find(0, 0, 12), 0);
        due("13 no changes, settled", x.settled(), true);
        due("13 no changes, tried", x.tried(), 0);
        x.change(true, 0, 2, 5, 3);
        x.change(true, 0, 2, 6, 1);
        x.change(true, 0, 2, 7, 1);
        due("13 size 1", x.find(0, 0, 1), 0);
        due("13 size 1, tried", x.tried(), 3);
        due("13 size 2", x.find(0, 0, 2), 3);
        due("13 size 2, tried", x.tried(), 6);
        due("13 sets", sets(x), "1 2, 0 1, 0 2");
        due("13 size 12 passes over", x.find(0, 0, 12), 3);
        due("13 size 12 passes over, tried", x.tried(), 6);
        due("13 no, holds", x.find(1, 0, 1), NO);
        due("13 no, not of it", x.find(0, 1, 1), NO);
        due("13 bad", x.find(0, 0, 13), BAD);
        due("13 what was found stays", sets(x), "1 2, 0 1, 0 2");
        due("13 tried stays", x.tried(), 6);
        x.triple(0, 2, 7);
        x.rule(0, 11, 3, 1);
        x.change(false, 0, 0, 11, 1);
        due("13 found stays, whatever comes", sets(x), "1 2, 0 1, 0 2");
        due("13 found anew", x.find(0, 0, 12), 3);
        due("13 sets anew", sets(x), "1, 3, 0");
        due("13 triples stay", x.results(), 2);
    }

    /** By weight, then by size, then as the numbers go up. */
    private static void promise13FindOrder() {
        ReportCauses x = asking(2);
        x.triple(11, 1, 10);
        x.change(true, 0, 2, 1, 2);
        x.change(true, 0, 2, 2, 1);
        x.change(false, 0, 0, 11, 3);
        x.change(true, 0, 2, 3, 1);
        x.change(true, 0, 2, 4, 2);
        due("13 order, how many", x.find(0, 0, 5), 7);
        due("13 order", sets(x), "1 3, 2, 0 1, 0 3, 1 4, 3 4, 0 4");
        due("13 order, tried", x.tried(), 11);
    }

    /** Changes are done by their numbers: the later of two about one triple stands. */
    private static void promise13FindSame() {
        ReportCauses x = asking(1);
        x.change(true, 0, 2, 1, 1);
        x.change(false, 0, 2, 1, 1);
        x.change(true, 0, 3, 1, 1);
        due("13 put alone", x.find(0, 0, 3), 1);
        due("13 put alone", sets(x), "0");
        ReportCauses y = asking(1);
        y.rule(1, 11, 2, 0);
        y.change(false, 0, 2, 1, 1);
        y.change(true, 0, 2, 1, 1);
        y.triple(0, 2, 1);
        due("13 take alone", y.find(1, 0, 2), 1);
        due("13 take alone", sets(y), "0");
        due("13 put and take of one triple", y.cover(2), NO);
    }

    private static void promise13FindAtTheEdges() {
        ReportCauses x = asking(1);
        x.change(true, 0, 2, 1, 1);
        x.change(true, 0, 2, 2, 1);
        x.tries(2);
        due("13 only passed over are left", x.find(0, 0, 2), 2);
        due("13 only passed over are left, settled", x.settled(), true);
        x.change(true, 0, 3, 1, 1);
        due("13 one is left", x.find(0, 0, 2), 2);
        due("13 one is left, settled", x.settled(), false);
        due("13 one is left, tried", x.tried(), 2);
        ReportCauses y = asking(2);
        y.tries(5000);
        for (int o = 0; o < 8; o++) {
            y.change(true, 0, 2, o, 1);
        }
        due("13 28 are all", y.find(0, 0, 8), 28);
        due("13 28 are all, settled", y.settled(), true);
        y.change(false, 0, 0, 11, 9);
        y.change(false, 11, 1, 11, 9);
        due("13 29 are all", y.find(0, 0, 10), 29);
        due("13 29 are all, settled", y.settled(), true);
        y.clear();
        y.triple(0, 0, 10);
        y.triple(10, 1, 11);
        y.change(false, 0, 0, 11, 1);
        y.change(false, 0, 0, 10, 1);
        y.change(false, 10, 1, 11, 1);
        for (int o = 0; o < 8; o++) {
            y.change(true, 0, 2, o, 1);
        }
        due("13 the 30th ends it", y.find(0, 0, 2), 30);
        due("13 the 30th ends it, not settled", y.settled(), false);
        due("13 the 30th ends it, tried", y.tried(), 66);
        due("13 the 30th", set(y, 29), "9 10");
    }

    private static void promise14And15SettledTried() {
        ReportCauses x = asking(1);
        due("14 before", x.settled(), false);
        due("15 before", x.tried(), 0);
        due("14 cover", x.cover(0), NO);
        due("14 cover that is NO is settled", x.settled(), true);
        due("15 cover that is NO tried", x.tried(), 1);
        x.change(true, 0, 3, 1, 1);
        x.change(true, 0, 2, 1, 1);
        x.tries(1);
        x.find(0, 0, 2);
        due("14 find not settled", x.settled(), false);
        due("15 find", x.tried(), 1);
        x.tries(4);
        x.cover(2);
        due("14 cover settled", x.settled(), true);
        due("15 cover", x.tried(), 4);
        x.tries(3);
        x.cover(2);
        due("14 cover not settled", x.settled(), false);
        due("15 cover", x.tried(), 3);
        due("14 bad cover", x.cover(13), BAD);
        due("14 bad cover changes nothing", x.settled(), false);
        x.find(0, 0, 2);
        due("14 find settled", x.settled(), true);
        due("15 find", x.tried(), 2);
        due("14 bad find", x.find(0, 0, 13), BAD);
        due("14 refused find", x.find(0, 1, 1), NO);
        due("14 refused find changes nothing", x.settled(), true);
        due("15 refused find changes nothing", x.tried(), 2);
        x.apply(0);
        due("14 apply changes nothing", x.settled(), true);
        due("15 apply changes nothing", x.tried(), 2);
    }

    private static void promise16Set() {
        ReportCauses x = asking(2);
        x.change(true, 0, 5, 3, 1);
        x.change(true, 0, 2, 3, 1);
        x.change(true, 0, 2, 4, 1);
        x.find(0, 0, 3);
        due("16 first", x.set(0, 0), 1);
        due("16 second", x.set(0, 1), 2);
        due("16 no third", x.set(0, 2), NO);
        due("16 no such set", x.set(1, 0), NO);
        for (int n : NO_INDEXES) {
            due("16 no such set", x.set(n, 0), NO);
            due("16 no such change", x.set(0, n), NO);
        }
        x.cover(3);
        due("16 stays over a cover", set(x, 0), "1 2");
        x.drop(0, 0, 11);
        due("16 stays when the result goes", set(x, 0), "1 2");
    }

    private static void promise17Weight() {
        ReportCauses x = asking(12);
        for (int o = 0; o < 12; o++) {
            x.change(true, 0, 2, o, 9);
        }
        x.tries(5000);
        due("17 all twelve", x.find(0, 0, 12), 1);
        due("17 heaviest", x.weight(0), 108);
        due("17 tried", x.tried(), 4095);
        due("20 heaviest cover", x.cover(12), 108);
        due("20 heaviest cover", covered(x), "0 1 2 3 4 5 6 7 8 9 10 11");
        due("17 none such", x.weight(1), NO);
        for (int n : NO_INDEXES) {
            due("17 none such", x.weight(n), NO);
        }
        ReportCauses y = asking(2);
        y.change(true, 0, 2, 1, 4);
        y.change(true, 0, 2, 2, 3);
        y.change(true, 0, 2, 3, 2);
        y.find(0, 0, 2);
        due("17 lightest", y.weight(0), 5);
        due("17 next", y.weight(1), 6);
        due("17 last", y.weight(2), 7);
    }

    private static void promise18Breaks() {
        ReportCauses x = asking(1);
        x.rule(1, 11, 2, 0);
        x.rule(3, 11, 2, 5);
        x.rule(0, 11, 4, 1);
        x.change(true, 0, 2, 5, 1);
        x.change(true, 0, 2, 6, 1);
        x.find(0, 0, 2);
        due("18 first", x.breaks(0, 0), 12);
        due("18 second", x.breaks(0, 1), 24);
        due("18 no third: what was a result is not broken", x.breaks(0, 2), NO);
        due("18 other set", x.breaks(1, 0), 12);
        due("18 other set", x.breaks(1, 1), NO);
        for (int n : NO_INDEXES) {
            due("18 none such", x.breaks(n, 0), NO);
            due("18 none such", x.breaks(0, n), NO);
        }
        due("18 no such set", x.breaks(2, 0), NO);
        due("18 triples stay", results(x), "0 36");
        x.triple(0, 2, 7);
        due("18 now", x.breaks(0, 0), 24);
        due("18 now", x.breaks(0, 1), NO);
        x.rule(1, 11, 2, 1);
        due("18 a new rule", x.breaks(0, 1), 48);
        x.drop(0, 0, 11);
        due("18 for none", x.breaks(0, 0), NO);
    }

    private static void promise19Apply() {
        ReportCauses x = asking(1);
        x.rule(1, 11, 2, 0);
        x.rule(0, 11, 3, 1);
        x.change(true, 0, 2, 5, 2);
        x.change(false, 0, 0, 11, 3);
        x.find(0, 0, 2);
        x.cover(2);
        due("19 no such set", x.apply(2), NO);
        for (int n : NO_INDEXES) {
            due("19 no such set", x.apply(n), NO);
        }
        due("19 found stays where it is refused", sets(x), "0, 1");
        due("19 results then", x.apply(0), 2);
        due("19 results", results(x), "12 24");
        due("19 it is done", x.triple(0, 2, 5), 0);
        due("19 nothing found", x.set(0, 0), NO);
        due("19 nothing found", x.apply(0), NO);
        due("19 covered stays", covered(x), "1");
        due("19 changes stay", x.change(true, 0, 2, 5, 2), NO);
        due("19 changes stay", x.find(1, 0, 1), 1);
        due("19 the type goes", x.apply(0), 0);
        due("19 the type is gone", x.isOf(0, 11), 0);
        due("19 changes still stay", x.clear(), 2);
    }

    private static void promise20Cover() {
        ReportCauses x = asking(1);
        x.rule(0, 11, 3, 1);
        int[] noSizes = {-1, 13, Integer.MIN_VALUE, Integer.MAX_VALUE};
        x.change(true, 0, 2, 5, 2);
        x.change(true, 0, 3, 5, 2);
        x.change(false, 0, 0, 11, 5);
        due("20 size 0", x.cover(0), NO);
        due("20 size 0, tried", x.tried(), 1);
        due("20 size 1", x.cover(1), 5);
        due("20 size 1, covered", covered(x), "2");
        due("20 size 1, tried", x.tried(), 4);
        due("20 size 2", x.cover(2), 4);
        due("20 size 2, covered", covered(x), "0 1");
        due("20 size 2, none passed over", x.tried(), 7);
        due("20 size 12", x.cover(12), 4);
        due("20 size 12, tried", x.tried(), 8);
        for (int n : noSizes) {
            due("20 bad", x.cover(n), BAD);
        }
        due("20 bad changes nothing", covered(x), "0 1");
        due("20 triples stay", x.results(), 2);
        x.tries(4);
        due("20 as far as the tries go", x.cover(2), 5);
        due("20 not settled", x.settled(), false);
        x.tries(3);
        due("20 not so far", x.cover(2), NO);
        due("20 not so far, not settled", x.settled(), false);
        due("20 nothing covered then", x.covered(0), NO);
        x.drop(0, 0, 11);
        due("20 nothing to put right", x.cover(0), 0);
        due("20 nothing to put right", x.covered(0), NO);
    }

    /** Weight goes before size, size before order; what breaks another rule covers nothing. */
    private static void promise20CoverTies() {
        ReportCauses x = asking(2);
        x.change(true, 0, 2, 1, 2);
        x.change(true, 0, 2, 2, 2);
        x.change(true, 0, 2, 3, 2);
        x.change(false, 0, 0, 11, 4);
        due("20 lesser size", x.cover(12), 4);
        due("20 lesser size", covered(x), "3");
        x.rule(0, 10, 2, 2);
        x.triple(0, 0, 10);
        due("20 the first", x.cover(12), 4);
        due("20 the first", covered(x), "0 1");
        x.rule(3, 10, 2, 2);
        due("20 what breaks nothing", x.cover(12), 4);
        due("20 what breaks nothing", covered(x), "0 2");
    }

    private static void promise20CoverOfTenRules() {
        ReportCauses x = asking(1);
        for (int rule = 1; rule < 9; rule++) {
            x.rule(0, 11, 2, 1);
        }
        due("20 tenth rule", x.rule(0, 11, 3, 1), 9);
        x.change(true, 0, 2, 0, 1);
        due("20 the tenth rule counts", x.cover(12), NO);
        x.change(true, 0, 3, 0, 8);
        due("20 all ten", x.cover(12), 9);
        due("20 all ten", covered(x), "0 1");
    }

    private static void promise21Covered() {
        ReportCauses x = asking(2);
        x.change(true, 0, 2, 4, 9);
        x.change(true, 0, 2, 1, 1);
        x.change(true, 0, 2, 2, 2);
        x.cover(3);
        due("21 first", x.covered(0), 1);
        due("21 second", x.covered(1), 2);
        due("21 no third", x.covered(2), NO);
        for (int n : NO_INDEXES) {
            due("21 none such", x.covered(n), NO);
        }
        x.find(0, 0, 3);
        due("21 stays over a find", covered(x), "1 2");
        x.change(true, 0, 2, 3, 1);
        x.triple(0, 2, 9);
        x.rule(0, 11, 5, 1);
        due("21 stays, whatever comes", covered(x), "1 2");
        x.cover(13);
        due("21 stays over a bad one", covered(x), "1 2");
        x.cover(3);
        due("21 gone with one that finds none", covered(x), "");
    }

    private static void promise22Sentence() {
        ReportCauses x = new ReportCauses();
        x.triple(11, 0, 10);
        x.rule(0, 10, 2, 3);
        x.triple(11, 2, 0);
        x.change(true, 11, 2, 11, 1);
        x.change(false, 11, 0, 10, 9);
        x.change(true, 11, 2, 9, 1);
        x.find(0, 11, 3);
        due("22 two", x.sentence(0), 24);
        due("22 two", told(x), "put 11 2 11, put 11 2 9.");
        due("22 one", x.sentence(1), 13);
        due("22 one", told(x), "take 11 0 10.");
        due("22 no such set", x.sentence(2), NO);
        for (int n : NO_INDEXES) {
            due("22 no such set", x.sentence(n), NO);
        }
        due("22 what was told stays", told(x), "take 11 0 10.");
        ReportCauses y = asking(12);
        y.tries(5000);
        StringBuilder all = new StringBuilder();
        for (int o = 0; o < 12; o++) {
            y.change(true, 0, 2, o, 1);
            all.append(o == 0 ? "" : ", ").append("put 0 2 ").append(o);
        }
        y.find(0, 0, 12);
        due("22 all twelve", telling(y, 0), all.append('.').toString());
    }

    /** Twelve takings from a node of two digits. */
    private static void promise22LongSentence() {
        ReportCauses x = new ReportCauses();
        x.triple(11, 0, 10);
        x.rule(1, 10, 2, 0);
        x.tries(5000);
        StringBuilder all = new StringBuilder();
        for (int o = 0; o < 12; o++) {
            x.triple(11, 2, o);
            x.change(false, 11, 2, o, 1);
            all.append(o == 0 ? "" : ", ").append("take 11 2 ").append(o);
        }
        due("22 long, one set", x.find(0, 11, 12), 1);
        due("22 long", x.sentence(0), 157);
        due("22 long", told(x), all.append('.').toString());
    }

    private static void promise23Letter() {
        ReportCauses x = asking(1);
        x.change(true, 0, 2, 3, 1);
        x.find(0, 0, 1);
        due("23 nothing was told", x.letter(0), NO);
        x.sentence(0);
        due("23 first", x.letter(0), 'p');
        due("23 blank", x.letter(3), ' ');
        due("23 digit", x.letter(8), '3');
        due("23 last", x.letter(9), '.');
        due("23 behind the last", x.letter(10), NO);
        for (int n : NO_INDEXES) {
            due("23 none such", x.letter(n), NO);
        }
        x.apply(0);
        x.clear();
        due("23 stays", told(x), "put 0 2 3.");
    }
}
