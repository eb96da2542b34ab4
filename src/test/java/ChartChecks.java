import java.util.ArrayList;
import java.util.Arrays;
import java.util.List;

/** What the tests share: charts made in one line, answers that are due, and charts compared. */
abstract class ChartChecks {
    /** One call; a boolean answer counts 1 or 0. */
    interface Call {
        long answer();
    }

    /** One call on a chart that is given. */
    interface On {
        long answer(EarleyChart chart);
    }

    /** Makes the same chart anew each time, since one object has no more than 512 calls. */
    interface Maker {
        EarleyChart make();
    }

    static final String STATE = "java.lang.IllegalStateException";
    static final String ARGUMENT = "java.lang.IllegalArgumentException";
    static final String INDEX = "java.lang.IndexOutOfBoundsException";
    static final String ELEMENT = "java.util.NoSuchElementException";

    /** Neither a symbol nor an index in any state, not even cut to a byte or a short, or wrapped. */
    static final int[] FAR = {Integer.MIN_VALUE, Integer.MIN_VALUE + 1, Integer.MIN_VALUE + 99,
        Integer.MIN_VALUE + 100, -65536, -65436, -256, -156, -101, -100, -99, -2, 65536, 65537, 65636,
        1 << 24, 1 << 30, Integer.MAX_VALUE - 1, Integer.MAX_VALUE};

    private static int wrong = 0;
    private static String promise = "";

    /** Which promise, and which of its words, the checks that follow are about. */
    static void promise(String words) {
        promise = words;
    }

    /** Ends the test, with exit code 1 if an answer was wrong. */
    static void end(String whenWell) {
        System.out.println(wrong == 0 ? whenWell : wrong + " answers are wrong");
        if (wrong != 0) {
            System.exit(1);
        }
    }

    static void report(String what, String got, String want) {
        if (!got.equals(want)) {
            wrong++;
            System.out.println(promise + ": " + what + " gave " + got + ", due is " + want);
        }
    }

    static String outcome(Call call) {
        try {
            return String.valueOf(call.answer());
        } catch (RuntimeException e) {
            return e.getClass().getName();
        }
    }

    static void due(String what, Call call, long want) {
        report(what, outcome(call), String.valueOf(want));
    }

    static void dueThrow(String what, Call call, String want) {
        report(what, outcome(call), want);
    }

    static void dueTrue(String what, boolean got) {
        report(what, String.valueOf(got), "true");
    }

    static void dueFalse(String what, boolean got) {
        report(what, String.valueOf(got), "false");
    }

    /** The call throws, and the chart is then as one on which it was never made. */
    static void dueRefused(String what, Maker maker, On call, String exception) {
        EarleyChart refusing = maker.make();
        dueThrow(what, () -> call.answer(refusing), exception);
        dueSame(what + ", which changes nothing:", () -> {
            EarleyChart chart = maker.make();
            outcome(() -> call.answer(chart));
            return chart;
        }, maker);
    }

    /** No call tells the two charts apart, neither one that asks nor one that goes on. */
    static void dueSame(String what, Maker got, Maker want) {
        report(what + " sets and witness", sets(got.make()), sets(want.make()));
        report(what + " steps of variables", steps(got.make(), -1), steps(want.make(), -1));
        report(what + " steps of tokens", steps(got.make(), 99), steps(want.make(), 99));
        report(what + " nullable", nullables(got.make()), nullables(want.make()));
        report(what + " productions to come", growth(got.make()), growth(want.make()));
        report(what + " tokens to come", course(got.make()), course(want.make()));
    }

    private static String sets(EarleyChart chart) {
        StringBuilder text = new StringBuilder();
        text.append(chart.fed()).append(chart.alive()).append(chart.accepts()).append(witness(chart));
        for (int k = 0; k <= chart.fed(); k++) {
            text.append(items(chart, k));
        }
        return text.toString();
    }

    private static String steps(EarleyChart chart, int firstSymbol) {
        StringBuilder text = new StringBuilder();
        int fed = chart.fed();
        for (int symbol = firstSymbol; symbol < firstSymbol + 8; symbol++) {
            for (int i = 0; i <= fed; i++) {
                for (int j = i; j <= fed; j++) {
                    text.append(stepsOf(chart, symbol, i, j)).append(' ');
                }
            }
        }
        return text.toString();
    }

    private static String stepsOf(EarleyChart chart, int symbol, int i, int j) {
        return outcome(() -> chart.steps(symbol, i, j));
    }

    private static String nullables(EarleyChart chart) {
        StringBuilder text = new StringBuilder();
        for (int variable = -1; variable < 7; variable++) {
            text.append(nullableOf(chart, variable)).append(' ');
        }
        return text.toString();
    }

    static String nullableOf(EarleyChart chart, int variable) {
        return outcome(() -> chart.nullable(variable) ? 1 : 0);
    }

    /** How the grammar goes on, at once and after a clear: how much room there is for what. */
    private static String growth(EarleyChart chart) {
        StringBuilder text = new StringBuilder();
        for (int i = 0; i < 20; i++) {
            text.append(outcome(() -> chart.addRhs(100))).append(' ');
            text.append(outcome(() -> chart.addRhs(0))).append(' ');
            if (i == 0) {
                text.append(outcome(() -> chart.clear())).append(' ');
            }
            if (i % 2 == 0) {
                text.append(outcome(() -> chart.addProd(0))).append(' ');
            }
        }
        return text.append(items(chart, 0)).append(chart.erase()).toString();
    }

    /** How the input goes on, up to the last token, and then from the first one again. */
    private static String course(EarleyChart chart) {
        StringBuilder text = new StringBuilder();
        for (int i = 0; i < 20; i++) {
            int token = 100 + i % 2;
            text.append(outcome(() -> chart.feed(token))).append(' ');
            text.append(outcome(() -> chart.extract())).append(witness(chart));
            if (i == 9) {
                text.append(chart.clear()).append(' ');
            }
        }
        return text.toString();
    }

    /** A chart with 6 variables and 6 tokens; each row is a left side and then its right side. */
    static EarleyChart chart(int[]... productions) {
        return addAll(new EarleyChart(6, 6), productions);
    }

    static EarleyChart addAll(EarleyChart chart, int[]... productions) {
        for (int[] production : productions) {
            chart.addProd(production[0]);
            for (int i = 1; i < production.length; i++) {
                chart.addRhs(production[i]);
            }
        }
        return chart;
    }

    static int[] p(int... symbols) {
        return symbols;
    }

    static EarleyChart feedAll(EarleyChart chart, int... tokens) {
        for (int token : tokens) {
            chart.feed(token);
        }
        return chart;
    }

    static EarleyChart feedTimes(EarleyChart chart, int token, int times) {
        for (int i = 0; i < times; i++) {
            chart.feed(token);
        }
        return chart;
    }

    static EarleyChart extracted(EarleyChart chart) {
        chart.extract();
        return chart;
    }

    /** S -> S a S | b, with b = 101 and a = 100. */
    static EarleyChart ambiguous() {
        return chart(p(0, 0, 100, 0), p(0, 101));
    }

    static String items(EarleyChart chart, int k) {
        List<Integer> got = new ArrayList<>();
        int count = chart.items(k);
        for (int i = 0; i < count; i++) {
            got.add(chart.item(k, i));
        }
        return got.toString();
    }

    static String witness(EarleyChart chart) {
        List<Integer> got = new ArrayList<>();
        int count = chart.witCount();
        for (int i = 0; i < count; i++) {
            got.add(chart.wit(i));
        }
        return got.toString();
    }

    static void dueItems(EarleyChart chart, int k, int... want) {
        report("items of set " + k, items(chart, k), Arrays.toString(want));
    }

    static void dueWitness(EarleyChart chart, int... want) {
        due("extract", () -> chart.extract(), want.length);
        report("witness", witness(chart), Arrays.toString(want));
    }

    static int countVariables(EarleyChart chart) {
        int count = 0;
        while (count < 100 && nullableOf(chart, count).equals("0")) {
            count++;
        }
        return count;
    }

    static int countTokens(EarleyChart chart) {
        int count = 0;
        while (count < 100 && stepsOf(chart, 100 + count, 0, 0).equals("-1")) {
            count++;
        }
        return count;
    }
}
