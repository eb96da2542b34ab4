import java.util.ArrayList;
import java.util.Arrays;
import java.util.List;
import java.util.Set;

/**
 * The same calls to an EarleyChart and to a PlainChart, whose answers must agree. Grammars, inputs
 * and calls are made by a fixed row of numbers, so that each run of the test is the same.
 */
public final class EarleyChartOracleTest {
    private static final int GRAMMARS = 6000;
    private static final int CALL_RUNS = 1500;
    private static final int CALLS = 512;
    private static final Set<String> CHANGING =
            Set.of("addProd", "addRhs", "feed", "extract", "clear", "erase");
    private static final int[] FAR = {Integer.MIN_VALUE, -100, -2, -1, 6, 7, 9, 50, 99, 106, 200,
        1000, 8000, Integer.MAX_VALUE};

    private static long seed = 20261115L;
    private static int wrong = 0;

    private final String name;
    private final int variables;
    private final int tokens;
    private final PlainChart plain;
    private EarleyChart chart;
    /** How many calls the chart has had, and those of them that a new one needs to be like it. */
    private int calls = 0;
    private final List<String> changes = new ArrayList<>();
    private final List<int[]> changesGiven = new ArrayList<>();

    private EarleyChartOracleTest(String name, int variables, int tokens) {
        this.name = name;
        this.variables = variables;
        this.tokens = tokens;
        this.chart = new EarleyChart(variables, tokens);
        this.plain = new PlainChart(variables, tokens);
    }

    public static void main(String[] args) {
        int accepted = grammarRuns();
        longRuns();
        callRuns();
        if (accepted < GRAMMARS / 10) {
            wrong++;
            System.out.println("only " + accepted + " inputs were accepted: too few to tell of witnesses");
        }
        System.out.println(wrong == 0 ? "all answers agree" : wrong + " answers differ");
        if (wrong != 0) {
            System.exit(1);
        }
    }

    private static int below(int bound) {
        seed = seed * 6364136223846793005L + 1442695040888963407L;
        return (int) ((seed >>> 33) % bound);
    }

    private static int grammarRuns() {
        int accepted = 0;
        for (int run = 0; run < GRAMMARS; run++) {
            EarleyChartOracleTest pair =
                    new EarleyChartOracleTest("grammar " + run, 1 + below(6), 1 + below(3));
            if (below(3) == 0) {
                // What an earlier grammar and input left behind must not show.
                pair.addGrammar();
                pair.feedSome(below(9));
                pair.same("erase");
            }
            pair.addGrammar();
            if (below(3) == 0) {
                pair.feedSome(below(9));
                pair.same("clear");
            }
            pair.feedSome(below(2) == 0 ? below(9) : below(3));
            pair.compareAll();
            accepted += pair.plain.accepts() ? 1 : 0;
        }
        return accepted;
    }

    /** Grammars whose witness is long and deep: each token needs a whole round of the variables. */
    private static void longRuns() {
        int[][][] grammars = {
            {{1, 0, 0, 0}, {0, 3, 3, 3}, {3, 5, 5, 5}, {4, 100, 1, 1, 1}, {4}, {5, 2, 2}, {2, 4}},
            {{0, 2, 2, 2}, {2, 1, 1, 1}, {4, 5}, {5, 3, 100, 3, 3}, {1, 4, 4}, {3, 0, 0, 0}, {5}},
            {{0, 100, 0, 1, 1}, {0}, {1, 2, 2, 2}, {2, 3, 3, 3}, {3, 4, 4, 4}, {4, 5, 5, 5}, {5}},
            {{0, 1}, {1, 2}, {2, 3}, {3, 4}, {4, 5}, {5, 100, 0}, {5, 0, 0}, {5}},
            {{0, 1, 1, 1, 1}, {1, 2, 2, 2, 2}, {2, 3, 3, 3, 3}, {3, 4, 4, 4, 4}, {4}},
        };
        for (int g = 0; g < grammars.length; g++) {
            EarleyChartOracleTest pair = new EarleyChartOracleTest("long grammar " + g, 6, 1);
            for (int[] production : grammars[g]) {
                pair.same("addProd", production[0]);
                for (int i = 1; i < production.length; i++) {
                    pair.same("addRhs", production[i]);
                }
            }
            pair.compareAll();
            for (int fed = 0; fed < 8; fed++) {
                pair.feedSome(1);
                pair.compareAll();
            }
        }
    }

    /** Calls of all kinds in any order, wrong ones among them, as many as one object may have. */
    private static void callRuns() {
        for (int run = 0; run < CALL_RUNS; run++) {
            EarleyChartOracleTest pair = new EarleyChartOracleTest("calls " + run, below(8), below(8));
            for (int call = 0; call < CALLS; call++) {
                pair.anyCall();
            }
        }
    }

    private void anyCall() {
        int kind = below(100);
        if (kind < 10) {
            same("addProd", mostly(below(4)));
        } else if (kind < 28) {
            same("addRhs", mostly(below(3) == 0 ? 100 + below(3) : below(4)));
        } else if (kind < 42) {
            same("feed", mostly(100 + below(3)));
        } else if (kind < 44) {
            same("clear");
        } else if (kind == 44) {
            same("erase");
        } else if (kind < 55) {
            same("extract");
        } else if (kind < 62) {
            same("wit", mostly(below(12)));
        } else if (kind < 67) {
            same("items", mostly(below(10)));
        } else if (kind < 76) {
            same("item", mostly(below(9)), mostly(below(30)));
        } else if (kind < 88) {
            same("steps", mostly(below(2) * 100 + below(4)), mostly(below(5)), mostly(below(9)));
        } else if (kind < 91) {
            same("nullable", mostly(below(6)));
        } else {
            String[] asking = {"alive", "accepts", "witCount", "fed"};
            same(asking[below(4)]);
        }
    }

    private static int mostly(int usual) {
        return below(15) == 0 ? FAR[below(FAR.length)] : usual;
    }

    private void addGrammar() {
        int productions = 1 + below(8);
        int total = 0;
        int emptiness = below(3);
        for (int p = 0; p < productions; p++) {
            same("addProd", below(variables));
            int length = below(3) < emptiness ? below(2) : below(5);
            for (int d = 0; d < length && total < 16; d++) {
                same("addRhs", below(3) == 0 ? 100 + below(tokens) : below(variables));
                total++;
            }
        }
    }

    private void feedSome(int count) {
        for (int i = 0; i < count; i++) {
            same("feed", 100 + below(tokens));
        }
    }

    private void compareAll() {
        same("fed");
        same("alive");
        same("accepts");
        for (int k = 0; k <= plain.fed() + 1; k++) {
            same("items", k);
            for (int i = 0; k <= plain.fed() && i <= plain.items(k); i++) {
                same("item", k, i);
            }
        }
        for (int symbol = 0; symbol < 107; symbol = symbol == 7 ? 100 : symbol + 1) {
            for (int i = 0; i <= plain.fed(); i++) {
                for (int j = i; j <= plain.fed(); j++) {
                    same("steps", symbol, i, j);
                }
            }
            same("nullable", symbol);
        }
        same("extract");
        same("witCount");
        for (int i = 0; i <= plain.witCount(); i++) {
            same("wit", i);
        }
    }

    private void same(String call, int... given) {
        int[] a = {0, 0, 0};
        System.arraycopy(given, 0, a, 0, given.length);
        if (calls == CALLS) {
            remake();
        }
        calls++;
        if (CHANGING.contains(call)) {
            changes.add(call);
            changesGiven.add(a);
        }
        String got = outcome(call, a, true);
        String want = outcome(call, a, false);
        if (!got.equals(want)) {
            wrong++;
            System.out.println(name + ": " + call + Arrays.toString(given) + " answered " + got
                    + ", due is " + want);
        }
    }

    /** Nothing is promised after the 512th call, so a new chart takes the old one's place. */
    private void remake() {
        chart = new EarleyChart(variables, tokens);
        for (int i = 0; i < changes.size(); i++) {
            outcome(changes.get(i), changesGiven.get(i), true);
        }
        calls = changes.size();
    }

    private String outcome(String call, int[] a, boolean real) {
        try {
            return real ? ask(call, a) : askPlain(call, a);
        } catch (RuntimeException e) {
            return e.getClass().getName();
        }
    }

    private String ask(String call, int[] a) {
        switch (call) {
            case "addProd": return "" + chart.addProd(a[0]);
            case "addRhs": return "" + chart.addRhs(a[0]);
            case "feed": return "" + chart.feed(a[0]);
            case "alive": return "" + chart.alive();
            case "accepts": return "" + chart.accepts();
            case "extract": return "" + chart.extract();
            case "witCount": return "" + chart.witCount();
            case "wit": return "" + chart.wit(a[0]);
            case "clear": return "" + chart.clear();
            case "erase": return "" + chart.erase();
            case "items": return "" + chart.items(a[0]);
            case "item": return "" + chart.item(a[0], a[1]);
            case "steps": return "" + chart.steps(a[0], a[1], a[2]);
            case "nullable": return "" + chart.nullable(a[0]);
            case "fed": return "" + chart.fed();
            default: throw new AssertionError(call);
        }
    }

    private String askPlain(String call, int[] a) {
        switch (call) {
            case "addProd": return "" + plain.addProd(a[0]);
            case "addRhs": return "" + plain.addRhs(a[0]);
            case "feed": return "" + plain.feed(a[0]);
            case "alive": return "" + plain.alive();
            case "accepts": return "" + plain.accepts();
            case "extract": return "" + plain.extract();
            case "witCount": return "" + plain.witCount();
            case "wit": return "" + plain.wit(a[0]);
            case "clear": return "" + plain.clear();
            case "erase": return "" + plain.erase();
            case "items": return "" + plain.items(a[0]);
            case "item": return "" + plain.item(a[0], a[1]);
            case "steps": return "" + plain.steps(a[0], a[1], a[2]);
            case "nullable": return "" + plain.nullable(a[0]);
            case "fed": return "" + plain.fed();
            default: throw new AssertionError(call);
        }
    }
}
