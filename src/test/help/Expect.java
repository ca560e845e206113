import java.util.function.IntUnaryOperator;

/** What the tests share: which answer is due, and an object's rows read as texts. */
abstract class Expect {
    static final int BAD = ReportCauses.BAD;
    static final int NO = ReportCauses.NO;
    static final int FULL = ReportCauses.FULL;
    static final int LEAST = Integer.MIN_VALUE;
    static final int MOST = Integer.MAX_VALUE;

    /** Among them one that a shift takes for node 0, and one with which a triple's code wraps round. */
    static final int[] NO_NODES = {-1, 12, 32, 59652324, LEAST, MOST};
    static final int[] NO_PREDICATES = {-1, 6, 32, 357913942, LEAST, MOST};
    static final int[] NO_INDEXES = {-1, -2, LEAST, MOST};

    private static int wrong = 0;
    private static String part = "";

    /** What is due from here on belongs to this part of the document. */
    static void sentence(String quoted, Runnable test) {
        part = quoted + " | ";
        test.run();
        part = "";
    }

    static void due(String what, long got, long want) {
        if (got != want) {
            wrong++;
            System.out.println(part + what + " answered " + got + ", due is " + want);
        }
    }

    static void due(String what, boolean got, boolean want) {
        due(what, got ? 1 : 0, want ? 1 : 0);
    }

    static void due(String what, String got, String want) {
        if (!got.equals(want)) {
            wrong++;
            System.out.println(part + what + " told \"" + got + "\", due is \"" + want + "\"");
        }
    }

    static void end() {
        System.out.println(wrong == 0 ? "all answers are as due" : wrong + " answers are not as due");
        if (wrong != 0) {
            System.exit(1);
        }
    }

    /** Node 0 is of class 11, which asks for many objects of predicate 2 at least. */
    static ReportCauses asking(int many) {
        ReportCauses x = new ReportCauses();
        x.triple(0, 0, 11);
        x.rule(0, 11, 2, many);
        return x;
    }

    /** A row's answers till NO; the bound is for a class that never says it. */
    private static String row(IntUnaryOperator reads) {
        StringBuilder all = new StringBuilder();
        int one = reads.applyAsInt(0);
        for (int i = 1; one != NO && i < 1000; i++) {
            all.append(i == 1 ? "" : " ").append(one);
            one = reads.applyAsInt(i);
        }
        return all.toString();
    }

    static String results(ReportCauses x) {
        return row(i -> x.result(i));
    }

    static String reason(ReportCauses x, int node, int class0) {
        return row(i -> x.reason(node, class0, i));
    }

    static String set(ReportCauses x, int i) {
        return row(k -> x.set(i, k));
    }

    static String weights(ReportCauses x) {
        return row(i -> x.weight(i));
    }

    static String breaks(ReportCauses x, int i) {
        return row(k -> x.breaks(i, k));
    }

    static String covered(ReportCauses x) {
        return row(k -> x.covered(k));
    }

    static String sets(ReportCauses x) {
        StringBuilder all = new StringBuilder();
        String one = set(x, 0);
        for (int i = 1; !one.isEmpty() && i < 1000; i++) {
            all.append(i == 1 ? "" : ", ").append(one);
            one = set(x, i);
        }
        return all.toString();
    }

    static String told(ReportCauses x) {
        StringBuilder all = new StringBuilder();
        int one = x.letter(0);
        for (int k = 1; one != NO && k < 1000; k++) {
            all.append((char) one);
            one = x.letter(k);
        }
        return all.toString();
    }

    static String telling(ReportCauses x, int i) {
        int many = x.sentence(i);
        String text = told(x);
        due("sentence(" + i + ")", many, text.length());
        return text;
    }

    /** The sets of one change that clear a result of rule 0, in their order. */
    static String clearing(ReportCauses x, int node) {
        StringBuilder all = new StringBuilder();
        int sets = x.find(0, node, 1);
        for (int i = 0; i < sets; i++) {
            all.append(i == 0 ? "" : " ").append(telling(x, i));
        }
        return all.toString();
    }

    /** Node 1 is of class 11, for which rule 0 is; what the rule suggests for it is told. */
    static String suggested(int kind, int p, int a, int[][] triples) {
        ReportCauses x = new ReportCauses();
        x.triple(1, 0, 11);
        for (int[] t : triples) {
            x.triple(t[0], t[1], t[2]);
        }
        x.rule(kind, 11, p, a);
        int many = x.suggest(0, 1);
        String text = clearing(x, 1);
        due("how many were suggested", x.clear(), many);
        due("triples stay", x.isOf(1, 11), 1);
        return many + ": " + text;
    }
}
