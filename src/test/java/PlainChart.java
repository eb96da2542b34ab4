import java.util.ArrayList;
import java.util.HashMap;
import java.util.List;
import java.util.Map;
import java.util.NoSuchElementException;
import java.util.Set;
import java.util.TreeSet;

/**
 * A second program with the face of EarleyChart, which follows the words of the document one by
 * one and takes no care to be fast or small: what the tests compare EarleyChart with.
 */
final class PlainChart {
    private final int variables;
    private final int tokens;
    private final List<Integer> lefts = new ArrayList<>();
    private final List<List<Integer>> rights = new ArrayList<>();
    private final List<Integer> word = new ArrayList<>();
    private final List<Integer> witness = new ArrayList<>();
    /** Made when they are asked for, and thrown away when the grammar or the input changes. */
    private List<Set<Integer>> sets = null;
    private Map<String, Integer> steps = null;

    PlainChart(int variables, int tokens) {
        this.variables = variables < 1 || variables > 6 ? 4 : variables;
        this.tokens = tokens < 1 || tokens > 6 ? 4 : tokens;
    }

    int addProd(int lhs) {
        if (!word.isEmpty() || lefts.size() == 8) {
            throw new IllegalStateException();
        }
        if (!isVariable(lhs)) {
            throw new IllegalArgumentException();
        }
        changed();
        lefts.add(lhs);
        rights.add(new ArrayList<>());
        return lefts.size() - 1;
    }

    int addRhs(int symbol) {
        int total = 0;
        for (List<Integer> right : rights) {
            total += right.size();
        }
        if (!word.isEmpty() || rights.isEmpty() || rights.get(rights.size() - 1).size() == 4 || total == 16) {
            throw new IllegalStateException();
        }
        if (!isVariable(symbol) && !isToken(symbol)) {
            throw new IllegalArgumentException();
        }
        changed();
        rights.get(rights.size() - 1).add(symbol);
        return rights.get(rights.size() - 1).size();
    }

    int feed(int token) {
        if (lefts.isEmpty() || word.size() == 8) {
            throw new IllegalStateException();
        }
        if (!isToken(token)) {
            throw new IllegalArgumentException();
        }
        changed();
        word.add(token);
        return items(word.size());
    }

    boolean alive() {
        return items(word.size()) > 0;
    }

    boolean accepts() {
        for (int item : sets().get(word.size())) {
            if (item % 100 == 0 && behind(item) == -1 && lefts.get(item / 1000).equals(lefts.get(0))) {
                return true;
            }
        }
        return false;
    }

    int extract() {
        if (!accepts()) {
            throw new NoSuchElementException();
        }
        witness.clear();
        tell(lefts.get(0), 0, word.size());
        while (witness.size() > 8000) {
            witness.remove(witness.size() - 1);
        }
        return witness.size();
    }

    int witCount() {
        return witness.size();
    }

    int wit(int i) {
        if (i < 0 || i >= witness.size()) {
            throw new IndexOutOfBoundsException();
        }
        return witness.get(i);
    }

    int clear() {
        int before = word.size();
        changed();
        word.clear();
        return before;
    }

    int erase() {
        int before = lefts.size();
        clear();
        lefts.clear();
        rights.clear();
        return before;
    }

    int items(int k) {
        if (k < 0 || k > word.size()) {
            throw new IndexOutOfBoundsException();
        }
        return sets().get(k).size();
    }

    int item(int k, int i) {
        if (k < 0 || k > word.size() || i < 0 || i >= sets().get(k).size()) {
            throw new IndexOutOfBoundsException();
        }
        return new ArrayList<>(sets().get(k)).get(i);
    }

    int steps(int symbol, int i, int j) {
        if (!isVariable(symbol) && !isToken(symbol)) {
            throw new IllegalArgumentException();
        }
        if (i < 0 || j < i || j > word.size()) {
            throw new IndexOutOfBoundsException();
        }
        makeSteps();
        return ofSymbol(symbol, i, j);
    }

    boolean nullable(int variable) {
        if (!isVariable(variable)) {
            throw new IllegalArgumentException();
        }
        makeSteps();
        return ofSymbol(variable, 0, 0) >= 0;
    }

    int fed() {
        return word.size();
    }

    private boolean isVariable(int symbol) {
        return symbol >= 0 && symbol < variables;
    }

    private boolean isToken(int symbol) {
        return symbol >= 100 && symbol < 100 + tokens;
    }

    private void changed() {
        witness.clear();
        sets = null;
        steps = null;
    }

    private int behind(int item) {
        List<Integer> right = rights.get(item / 1000);
        int dot = item / 100 % 10;
        return dot < right.size() ? right.get(dot) : -1;
    }

    private List<Set<Integer>> sets() {
        if (sets == null) {
            sets = new ArrayList<>();
            for (int k = 0; k <= word.size(); k++) {
                Set<Integer> set = new TreeSet<>();
                sets.add(set);
                boolean grew = true;
                while (grew) {
                    grew = set.addAll(follow(k));
                }
            }
        }
        return sets;
    }

    /** What the four rules of the document put into set k. */
    private Set<Integer> follow(int k) {
        Set<Integer> more = new TreeSet<>();
        if (k == 0 && !lefts.isEmpty()) {
            predict(lefts.get(0), 0, more);
        }
        if (k > 0) {
            for (int item : sets.get(k - 1)) {
                if (behind(item) == word.get(k - 1)) {
                    more.add(item + 100);
                }
            }
        }
        for (int item : sets.get(k)) {
            if (behind(item) >= 0 && behind(item) < 100) {
                predict(behind(item), k, more);
            }
            if (behind(item) == -1) {
                for (int waiting : sets.get(item % 100)) {
                    if (behind(waiting) == lefts.get(item / 1000)) {
                        more.add(waiting + 100);
                    }
                }
            }
        }
        return more;
    }

    private void predict(int variable, int k, Set<Integer> more) {
        for (int p = 0; p < lefts.size(); p++) {
            if (lefts.get(p) == variable) {
                more.add(1000 * p + k);
            }
        }
    }

    /** Over all stretches at once, again and again until no step is saved. */
    private void makeSteps() {
        if (steps != null) {
            return;
        }
        steps = new HashMap<>();
        boolean saved = true;
        while (saved) {
            saved = false;
            for (int p = 0; p < lefts.size(); p++) {
                for (int i = 0; i <= word.size(); i++) {
                    for (int j = i; j <= word.size(); j++) {
                        int row = ofRow(rights.get(p), 0, i, j);
                        int known = ofSymbol(lefts.get(p), i, j);
                        if (row >= 0 && (known < 0 || row + 1 < known)) {
                            steps.put(key(lefts.get(p), i, j), row + 1);
                            saved = true;
                        }
                    }
                }
            }
        }
    }

    private static String key(int variable, int i, int j) {
        return variable + ":" + i + "-" + j;
    }

    private int ofSymbol(int symbol, int i, int j) {
        if (symbol >= 100) {
            return j == i + 1 && word.get(i) == symbol ? 0 : -1;
        }
        return steps.getOrDefault(key(symbol, i, j), -1);
    }

    private int ofRow(List<Integer> row, int first, int i, int j) {
        if (first == row.size()) {
            return i == j ? 0 : -1;
        }
        int best = -1;
        for (int m = i; m <= j; m++) {
            int one = ofSymbol(row.get(first), i, m);
            int others = one < 0 ? -1 : ofRow(row, first + 1, m, j);
            if (others >= 0 && (best < 0 || one + others < best)) {
                best = one + others;
            }
        }
        return best;
    }

    private void tell(int variable, int i, int j) {
        makeSteps();
        for (int p = 0; p < lefts.size(); p++) {
            if (lefts.get(p) == variable && ofRow(rights.get(p), 0, i, j) == ofSymbol(variable, i, j) - 1) {
                witness.add(p);
                tellRow(rights.get(p), 0, i, j);
                return;
            }
        }
        throw new AssertionError("no production");
    }

    private void tellRow(List<Integer> row, int first, int i, int j) {
        if (first == row.size()) {
            return;
        }
        for (int m = i; m <= j; m++) {
            int one = ofSymbol(row.get(first), i, m);
            int others = ofRow(row, first + 1, m, j);
            if (one >= 0 && others >= 0 && one + others == ofRow(row, first, i, j)) {
                if (row.get(first) < 100) {
                    tell(row.get(first), i, m);
                }
                tellRow(row, first + 1, m, j);
                return;
            }
        }
        throw new AssertionError("no split");
    }
}
