import java.util.ArrayList;
import java.util.HashMap;
import java.util.List;
import java.util.Map;
import java.util.Set;
import java.util.TreeSet;

/**
 * Many small grammars and inputs, made by a fixed row of numbers, against a second program that
 * follows the words of the document one by one and takes no care to be fast.
 */
public final class EarleyChartOracleTest {
    private static final int RUNS = 6000;
    private static int wrong = 0;
    private static long seed = 20261115L;

    private static int below(int bound) {
        seed = seed * 6364136223846793005L + 1442695040888963407L;
        return (int) ((seed >>> 33) % bound);
    }

    /** The document's words, as plainly as they can be written. */
    private static final class Oracle {
        final List<Integer> lefts = new ArrayList<>();
        final List<List<Integer>> rights = new ArrayList<>();
        final List<Integer> word = new ArrayList<>();
        final List<Set<Integer>> sets = new ArrayList<>();
        final Map<String, Integer> steps = new HashMap<>();
        final List<Integer> witness = new ArrayList<>();

        static int code(int production, int dot, int origin) {
            return 1000 * production + 100 * dot + origin;
        }

        int behind(int item) {
            List<Integer> right = rights.get(item / 1000);
            int dot = item / 100 % 10;
            return dot < right.size() ? right.get(dot) : -1;
        }

        void makeSets() {
            sets.clear();
            for (int k = 0; k <= word.size(); k++) {
                Set<Integer> set = new TreeSet<>();
                sets.add(set);
                boolean grew = true;
                while (grew) {
                    grew = set.addAll(follow(k));
                }
            }
        }

        private Set<Integer> follow(int k) {
            Set<Integer> more = new TreeSet<>();
            if (k == 0 && !lefts.isEmpty()) {
                predict(lefts.get(0), 0, more);
            }
            if (k > 0) {
                for (int item : sets.get(k - 1)) {
                    if (behind(item) == word.get(k - 1)) {
                        more.add(item + 100);
                    }
                }
            }
            for (int item : sets.get(k)) {
                if (behind(item) >= 0 && behind(item) < 100) {
                    predict(behind(item), k, more);
                }
                if (behind(item) == -1) {
                    for (int waiting : sets.get(item % 100)) {
                        if (behind(waiting) == lefts.get(item / 1000)) {
                            more.add(waiting + 100);
                        }
                    }
                }
            }
            return more;
        }

        private void predict(int variable, int k, Set<Integer> more) {
            for (int p = 0; p < lefts.size(); p++) {
                if (lefts.get(p) == variable) {
                    more.add(code(p, 0, k));
                }
            }
        }

        boolean accepted() {
            for (int item : sets.get(word.size())) {
                if (item % 100 == 0 && behind(item) == -1 && lefts.get(item / 1000).equals(lefts.get(0))) {
                    return true;
                }
            }
            return false;
        }

        /** Trees of height 0, 1, 2, .. over all stretches at once, until no step is saved. */
        void makeSteps() {
            steps.clear();
            boolean changed = true;
            while (changed) {
                changed = false;
                for (int p = 0; p < lefts.size(); p++) {
                    for (int i = 0; i <= word.size(); i++) {
                        for (int j = i; j <= word.size(); j++) {
                            int row = ofRow(rights.get(p), 0, i, j);
                            int known = ofSymbol(lefts.get(p), i, j);
                            if (row >= 0 && (known < 0 || row + 1 < known)) {
                                steps.put(key(lefts.get(p), i, j), row + 1);
                                changed = true;
                            }
                        }
                    }
                }
            }
        }

        static String key(int variable, int i, int j) {
            return variable + ":" + i + "-" + j;
        }

        int ofSymbol(int symbol, int i, int j) {
            if (symbol >= 100) {
                return j == i + 1 && word.get(i) == symbol ? 0 : -1;
            }
            return steps.getOrDefault(key(symbol, i, j), -1);
        }

        int ofRow(List<Integer> row, int from, int i, int j) {
            if (from == row.size()) {
                return i == j ? 0 : -1;
            }
            int best = -1;
            for (int m = i; m <= j; m++) {
                int first = ofSymbol(row.get(from), i, m);
                int others = first < 0 ? -1 : ofRow(row, from + 1, m, j);
                if (others >= 0 && (best < 0 || first + others < best)) {
                    best = first + others;
                }
            }
            return best;
        }

        void tell(int variable, int i, int j) {
            for (int p = 0; p < lefts.size(); p++) {
                if (lefts.get(p) == variable && ofRow(rights.get(p), 0, i, j) == ofSymbol(variable, i, j) - 1) {
                    witness.add(p);
                    tellRow(rights.get(p), 0, i, j);
                    return;
                }
            }
            throw new AssertionError("no production");
        }

        private void tellRow(List<Integer> row, int from, int i, int j) {
            if (from == row.size()) {
                return;
            }
            for (int m = i; m <= j; m++) {
                int first = ofSymbol(row.get(from), i, m);
                int others = ofRow(row, from + 1, m, j);
                if (first >= 0 && others >= 0 && first + others == ofRow(row, from, i, j)) {
                    if (row.get(from) < 100) {
                        tell(row.get(from), i, m);
                    }
                    tellRow(row, from + 1, m, j);
                    return;
                }
            }
            throw new AssertionError("no split");
        }
    }

    public static void main(String[] args) {
        int accepted = 0;
        for (int run = 0; run < RUNS; run++) {
            accepted += oneRun(run) ? 1 : 0;
        }
        due(-1, "runs that accept, enough for the test to mean something", accepted > RUNS / 10 ? 1 : 0, 1);
        System.out.println(wrong == 0 ? "all runs agree, " + accepted + " accepted" : wrong + " differ");
        if (wrong != 0) {
            System.exit(1);
        }
    }

    private static void due(int run, String what, int got, int want) {
        if (got != want) {
            wrong++;
            System.out.println("run " + run + ": " + what + " answered " + got + ", due is " + want);
        }
    }

    private static boolean oneRun(int run) {
        int variables = 1 + below(6);
        int tokens = 1 + below(3);
        EarleyChart chart = new EarleyChart(variables, tokens);
        if (below(3) == 0) {
            // What an earlier grammar and input left behind must not show.
            Oracle earlier = new Oracle();
            makeGrammar(chart, earlier, variables, tokens);
            feedWord(run, chart, earlier, tokens, below(9));
            due(run, "erase()", chart.erase(), earlier.lefts.size());
        }
        Oracle oracle = new Oracle();
        makeGrammar(chart, oracle, variables, tokens);
        if (below(3) == 0) {
            feedWord(run, chart, oracle, tokens, below(9));
            due(run, "clear()", chart.clear(), oracle.word.size());
            oracle.word.clear();
        }
        feedWord(run, chart, oracle, tokens, below(2) == 0 ? below(9) : below(3));
        compareSets(run, chart, oracle);
        compareSteps(run, chart, oracle, variables, tokens);
        return compareWitness(run, chart, oracle);
    }

    private static void makeGrammar(EarleyChart chart, Oracle oracle, int variables, int tokens) {
        int productions = 1 + below(8);
        int total = 0;
        int emptiness = below(3);
        for (int p = 0; p < productions; p++) {
            int left = below(variables);
            chart.addProd(left);
            oracle.lefts.add(left);
            oracle.rights.add(new ArrayList<>());
            int length = below(3) < emptiness ? below(2) : below(5);
            for (int d = 0; d < length && total < 16; d++) {
                int symbol = below(3) == 0 ? 100 + below(tokens) : below(variables);
                chart.addRhs(symbol);
                oracle.rights.get(p).add(symbol);
                total++;
            }
        }
    }

    private static void feedWord(int run, EarleyChart chart, Oracle oracle, int tokens, int length) {
        int[] sizes = new int[length];
        for (int i = 0; i < length; i++) {
            int token = 100 + below(tokens);
            sizes[i] = chart.feed(token);
            oracle.word.add(token);
        }
        oracle.makeSets();
        for (int i = 0; i < length; i++) {
            due(run, "feed " + i, sizes[i], oracle.sets.get(i + 1).size());
        }
    }

    private static void compareSets(int run, EarleyChart chart, Oracle oracle) {
        due(run, "fed()", chart.fed(), oracle.word.size());
        for (int k = 0; k <= oracle.word.size(); k++) {
            Set<Integer> set = oracle.sets.get(k);
            due(run, "items(" + k + ")", chart.items(k), set.size());
            int i = 0;
            for (int item : set) {
                if (i < chart.items(k)) {
                    due(run, "item(" + k + ", " + i + ")", chart.item(k, i), item);
                }
                i++;
            }
        }
        due(run, "alive()", chart.alive() ? 1 : 0, oracle.sets.get(oracle.word.size()).isEmpty() ? 0 : 1);
        due(run, "accepts()", chart.accepts() ? 1 : 0, oracle.accepted() ? 1 : 0);
    }

    private static void compareSteps(int run, EarleyChart chart, Oracle oracle, int variables, int tokens) {
        oracle.makeSteps();
        for (int symbol = 0; symbol < 100 + tokens; symbol = symbol == variables - 1 ? 100 : symbol + 1) {
            for (int i = 0; i <= oracle.word.size(); i++) {
                for (int j = i; j <= oracle.word.size(); j++) {
                    due(run, "steps(" + symbol + ", " + i + ", " + j + ")", chart.steps(symbol, i, j),
                            oracle.ofSymbol(symbol, i, j));
                }
            }
            if (symbol < 100) {
                due(run, "nullable(" + symbol + ")", chart.nullable(symbol) ? 1 : 0,
                        oracle.ofSymbol(symbol, 0, 0) >= 0 ? 1 : 0);
            }
        }
    }

    private static boolean compareWitness(int run, EarleyChart chart, Oracle oracle) {
        if (!oracle.accepted() || !chart.accepts()) {
            due(run, "witCount()", chart.witCount(), 0);
            return false;
        }
        oracle.tell(oracle.lefts.get(0), 0, oracle.word.size());
        due(run, "extract()", chart.extract(), oracle.witness.size());
        due(run, "witCount()", chart.witCount(), oracle.witness.size());
        for (int i = 0; i < chart.witCount() && i < oracle.witness.size(); i++) {
            due(run, "wit(" + i + ")", chart.wit(i), oracle.witness.get(i));
        }
        return true;
    }
}
