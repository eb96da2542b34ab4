import java.util.Arrays;

/** The words and limits of the section "Terms": each just inside its boundary and just outside. */
public final class EarleyChartLimitsTest extends ChartChecks {
    public static void main(String[] args) {
        variables();
        symbols();
        tokens();
        farNumbers();
        eightProductions();
        fourSymbols();
        emptyRightSide();
        sixteenSymbols();
        theSixteenthTakesPart();
        start();
        eightTokens();
        theEighthTokenTakesPart();
        aSetForEachPlace();
        leastSet();
        firstSet();
        predicted();
        scanned();
        completed();
        accepted();
        noProductions();
        stepsOfToken();
        stepsOfVariable();
        stepsOfRow();
        stepsOfEmptyRow();
        noDerivation();
        witnessOfTheStart();
        lowestProduction();
        witnessOrder();
        shortestStretch();
        longestWitness();
        fiveHundredAndTwelveCalls();
        end("all limits hold");
    }

    /** One empty production of variable 0. */
    private static Maker small(int variables, int tokens) {
        return () -> addAll(new EarleyChart(variables, tokens), p(0));
    }

    private static void variables() {
        promise("Terms, VARIABLES 0 .. V - 1");
        for (int v = 1; v <= 6; v++) {
            Maker maker = small(v, 7 - v);
            for (int inside : new int[] {0, v - 1}) {
                due("addProd(" + inside + ")", () -> maker.make().addProd(inside), 1);
                due("nullable(" + inside + ")", () -> maker.make().nullable(inside) ? 1 : 0,
                        inside == 0 ? 1 : 0);
            }
            for (int outside : new int[] {-1, v, 6, 99, 100, 106 - v}) {
                String of = "(" + outside + ") with " + v + " variables";
                dueRefused("addProd" + of, maker, chart -> chart.addProd(outside), ARGUMENT);
                dueRefused("nullable" + of, maker, chart -> chart.nullable(outside) ? 1 : 0, ARGUMENT);
            }
        }
    }

    private static void symbols() {
        promise("Terms, SYMBOLS: VARIABLES 0 .. V - 1 and TOKENS 100 .. 100 + T - 1");
        for (int v = 1; v <= 6; v++) {
            int t = 7 - v;
            Maker maker = small(v, t);
            for (int inside : new int[] {0, v - 1, 100, 99 + t}) {
                due("addRhs(" + inside + ")", () -> maker.make().addRhs(inside), 1);
                due("steps(" + inside + ")", () -> maker.make().steps(inside, 0, 0), inside == 0 ? 1 : -1);
            }
            for (int outside : new int[] {-1, v, 6, 99, 100 + t, 106}) {
                String of = "(" + outside + ") with " + v + " variables and " + t + " tokens";
                dueRefused("addRhs" + of, maker, chart -> chart.addRhs(outside), ARGUMENT);
                dueRefused("steps" + of, maker, chart -> chart.steps(outside, 0, 0), ARGUMENT);
            }
        }
    }

    private static void tokens() {
        promise("Terms, TOKENS 100 .. 100 + T - 1");
        for (int t = 1; t <= 6; t++) {
            int v = 7 - t;
            Maker maker = small(v, t);
            for (int inside : new int[] {100, 99 + t}) {
                due("feed(" + inside + ")", () -> maker.make().feed(inside), 0);
            }
            for (int outside : new int[] {-1, 0, v - 1, 99, 100 + t, 106}) {
                dueRefused("feed(" + outside + ") with " + t + " tokens", maker,
                        chart -> chart.feed(outside), ARGUMENT);
            }
        }
    }

    private static void farNumbers() {
        promise("Terms, SYMBOLS, the smallest and the largest int and others far off");
        Maker maker = small(6, 6);
        for (int far : FAR) {
            dueRefused("addProd(" + far + ")", maker, chart -> chart.addProd(far), ARGUMENT);
            dueRefused("addRhs(" + far + ")", maker, chart -> chart.addRhs(far), ARGUMENT);
            dueRefused("feed(" + far + ")", maker, chart -> chart.feed(far), ARGUMENT);
            dueRefused("steps(" + far + ")", maker, chart -> chart.steps(far, 0, 0), ARGUMENT);
            dueRefused("nullable(" + far + ")", maker, chart -> chart.nullable(far) ? 1 : 0, ARGUMENT);
        }
    }

    private static EarleyChart emptyProductions(int count) {
        EarleyChart chart = new EarleyChart(6, 6);
        for (int i = 0; i < count; i++) {
            chart.addProd(0);
        }
        return chart;
    }

    private static void eightProductions() {
        promise("Terms, at most 8 PRODUCTIONS, numbered from 0");
        for (int count = 0; count < 8; count++) {
            int before = count;
            due("addProd after " + count, () -> emptyProductions(before).addProd(5), count);
        }
        dueRefused("the ninth", () -> emptyProductions(8), chart -> chart.addProd(5), STATE);
        dueItems(emptyProductions(8), 0, 0, 1000, 2000, 3000, 4000, 5000, 6000, 7000);
        EarleyChart last = chart(p(0, 100), p(0, 100), p(0, 100), p(0, 100), p(0, 100), p(0, 100),
                p(0, 100), p(0, 101));
        dueWitness(feedAll(last, 101), 7);
    }

    /** Productions of variable 0, each with as many tokens 100 as its length says. */
    private static EarleyChart lengths(int... lengths) {
        EarleyChart chart = new EarleyChart(6, 6);
        for (int length : lengths) {
            chart.addProd(0);
            for (int i = 0; i < length; i++) {
                chart.addRhs(100);
            }
        }
        return chart;
    }

    private static void fourSymbols() {
        promise("Terms, a right side of at most 4 symbols");
        for (int symbol : new int[] {0, 5, 100, 105}) {
            for (int length = 0; length < 4; length++) {
                int before = length;
                due("addRhs after " + length, () -> lengths(before).addRhs(symbol), length + 1);
                due("addRhs after 4 and " + length, () -> lengths(4, before).addRhs(symbol), length + 1);
            }
            dueRefused("the fifth", () -> lengths(4), chart -> chart.addRhs(symbol), STATE);
            dueRefused("the fifth of the second", () -> lengths(0, 4), chart -> chart.addRhs(symbol), STATE);
        }
        Maker four = () -> chart(p(0, 100, 101, 102, 103));
        dueFalse("three of four", feedAll(four.make(), 100, 101, 102).accepts());
        dueTrue("all four", feedAll(four.make(), 100, 101, 102, 103).accepts());
        dueFalse("another fourth", feedAll(four.make(), 100, 101, 102, 102).accepts());
        dueItems(feedAll(four.make(), 100, 101, 102, 103), 4, 400);
    }

    private static void emptyRightSide() {
        promise("Terms, none: it is EMPTY");
        EarleyChart chart = lengths(0);
        dueItems(chart, 0, 0);
        dueTrue("accepts", chart.accepts());
        dueTrue("nullable", chart.nullable(0));
        dueWitness(chart, 0);
        EarleyChart one = lengths(1);
        dueItems(one, 0, 0);
        dueFalse("accepts with one symbol", one.accepts());
        dueFalse("nullable with one symbol", one.nullable(0));
        dueRefused("extract with one symbol", () -> lengths(1), c -> c.extract(), ELEMENT);
    }

    private static void sixteenSymbols() {
        promise("Terms, all right sides together have at most 16");
        int[][] fifteen = {{4, 4, 4, 3}, {4, 4, 4, 1, 2}, {4, 4, 4, 2, 1}, {4, 4, 4, 3, 0},
            {3, 3, 3, 3, 3}, {2, 2, 2, 2, 2, 2, 2, 1}, {0, 4, 0, 4, 0, 4, 0, 3}};
        for (int[] lengths : fifteen) {
            int last = lengths[lengths.length - 1];
            due("the sixteenth", () -> lengths(lengths).addRhs(0), last + 1);
            due("the sixteenth, a token", () -> lengths(lengths).addRhs(105), last + 1);
            Maker full = () -> {
                EarleyChart chart = lengths(lengths);
                chart.addRhs(100);
                return chart;
            };
            dueRefused("the seventeenth", full, chart -> chart.addRhs(0), STATE);
            dueRefused("the seventeenth, a token", full, chart -> chart.addRhs(105), STATE);
        }
        for (int before = 4; before < 8; before++) {
            int number = before;
            due("production " + before, () -> fullGrammar(number).addProd(1), before);
            dueRefused("its first symbol", () -> fullGrammar(number + 1), chart -> chart.addRhs(100), STATE);
        }
    }

    /** Sixteen symbols in the first four productions; the others are empty. */
    private static EarleyChart fullGrammar(int productions) {
        int[] lengths = new int[productions];
        Arrays.fill(lengths, 0, 4, 4);
        return lengths(lengths);
    }

    private static void theSixteenthTakesPart() {
        promise("Terms, all right sides together have at most 16: the last one counts");
        EarleyChart spread = chart(p(0, 100, 100), p(0, 100, 100), p(0, 100, 100), p(0, 100, 100),
                p(0, 100, 100), p(0, 100, 100), p(0, 100, 100), p(0, 101, 102));
        feedAll(spread, 101);
        dueItems(spread, 1, 7100);
        dueFalse("one of two", spread.accepts());
        feedAll(spread, 102);
        dueItems(spread, 2, 7200);
        dueWitness(spread, 7);
        EarleyChart fours = chart(p(0, 1, 1), p(1, 100, 100, 100, 100), p(2, 100, 100, 100, 100),
                p(3, 100, 100), p(1, 101, 102, 103, 104));
        feedAll(fours, 101, 102, 103, 104, 101, 102, 103, 104);
        dueWitness(fours, 0, 4, 4);
    }

    private static void start() {
        promise("Terms, the variable of production 0 is the START");
        for (int variable = 0; variable < 6; variable++) {
            int other = variable == 0 ? 5 : 0;
            EarleyChart chart = chart(p(variable, 100), p(other), p(variable, 101));
            dueItems(chart, 0, 0, 2000);
            dueFalse("nothing", chart.accepts());
            dueTrue("the other production of the start", feedAll(chart, 101).accepts());
        }
        EarleyChart again = chart(p(3, 100), p(2, 101));
        again.erase();
        addAll(again, p(2, 101), p(3, 100));
        dueItems(again, 0, 0);
        dueTrue("the start of the new grammar", feedAll(again, 101).accepts());
    }

    /** Any number of tokens 100 and 101. */
    private static EarleyChart anyWord() {
        return chart(p(0, 100, 0), p(0, 101, 0), p(0));
    }

    private static void eightTokens() {
        promise("Terms, the INPUT is at most 8 tokens");
        for (int count = 0; count < 8; count++) {
            int before = count;
            due("feed after " + count, () -> feedTimes(anyWord(), 100, before).feed(100), 4 + count + 1);
            due("fed after " + (count + 1), () -> feedTimes(anyWord(), 101, before + 1).fed(), count + 1);
        }
        Maker full = () -> feedTimes(anyWord(), 100, 8);
        dueRefused("the ninth", full, chart -> chart.feed(100), STATE);
        dueRefused("the ninth, another", full, chart -> chart.feed(105), STATE);
        Maker dead = () -> feedTimes(anyWord(), 105, 8);
        dueRefused("the ninth of a dead input", dead, chart -> chart.feed(100), STATE);
        due("the eighth after clear", () -> {
            EarleyChart chart = full.make();
            chart.clear();
            return feedTimes(chart, 100, 7).feed(100);
        }, 12);
    }

    private static void theEighthTokenTakesPart() {
        promise("Terms, the INPUT is at most 8 tokens: the last one counts");
        Maker maker = () -> chart(p(0, 1, 2), p(1, 100, 101, 102, 103), p(2, 104, 105, 100, 101));
        EarleyChart seven = feedAll(maker.make(), 100, 101, 102, 103, 104, 105, 100);
        dueFalse("seven", seven.accepts());
        dueTrue("seven, alive", seven.alive());
        dueTrue("eight", feedAll(seven, 101).accepts());
        dueWitness(seven, 0, 1, 2);
        due("steps of it", () -> seven.steps(101, 7, 8), 0);
        EarleyChart other = feedAll(maker.make(), 100, 101, 102, 103, 104, 105, 100, 102);
        dueFalse("another eighth", other.accepts());
        dueFalse("another eighth, alive", other.alive());
        due("steps of the other", () -> other.steps(102, 7, 8), 0);
    }

    private static void aSetForEachPlace() {
        promise("Terms, SET k, for k from 0 to the number of tokens fed");
        EarleyChart chart = chart(p(0, 100, 0), p(0));
        String[] whenLast = new String[9];
        for (int k = 0; k <= 8; k++) {
            whenLast[k] = items(chart, k);
            if (k < 8) {
                chart.feed(100);
            }
        }
        report("set 0", whenLast[0], "[0, 1000]");
        report("set 2", whenLast[2], "[2, 101, 200, 201, 1002]");
        for (int k = 0; k <= 8; k++) {
            report("set " + k + " when all are fed", items(chart, k), whenLast[k]);
        }
        dueThrow("set 9", () -> chart.items(9), INDEX);
    }

    private static void leastSet() {
        promise("Terms, the least set: no item that only stands for itself");
        dueItems(chart(p(0, 0)), 0, 0);
        dueItems(chart(p(0, 1), p(1, 0)), 0, 0, 1000);
        dueItems(chart(p(0, 1, 100), p(1, 1), p(2)), 0, 0, 1000);
        dueItems(feedAll(chart(p(0, 100, 1), p(1, 1)), 100), 1, 100, 1001);
        dueItems(feedAll(chart(p(0, 0, 0), p(0, 100)), 100), 1, 1, 100, 1001, 1100);
    }

    private static void firstSet() {
        promise("Terms, in set 0 is each production of the start's variable");
        dueItems(chart(p(2, 100), p(3, 101), p(2, 102), p(2)), 0, 0, 2000, 3000);
        dueItems(feedAll(chart(p(2, 100), p(2, 101)), 100), 1, 100);
    }

    private static void predicted() {
        promise("Terms, a variable behind its dot: its productions with dot 0 and origin k");
        Maker maker = () -> chart(p(0, 100, 1), p(1, 102), p(1), p(2, 102));
        dueItems(maker.make(), 0, 0);
        dueItems(feedAll(maker.make(), 100), 1, 100, 200, 1001, 2001);
        dueItems(chart(p(0, 1), p(1, 2), p(2, 3), p(3, 4), p(4, 5), p(5, 100)), 0,
                0, 1000, 2000, 3000, 4000, 5000);
        // Behind the last symbol there is none: production 1 begins nowhere.
        dueItems(feedAll(chart(p(0, 100), p(1, 100)), 100), 1, 100);
        EarleyChart last = feedTimes(anyWord(), 100, 8);
        report("items of set 8", items(last, 8),
                "[8, 107, 200, 201, 202, 203, 204, 205, 206, 207, 1008, 2008]");
    }

    private static void scanned() {
        promise("Terms, token k of the input (the first one is token 1) behind its dot");
        EarleyChart chart = feedAll(chart(p(0, 100, 101)), 100, 101);
        dueItems(chart, 0, 0);
        dueItems(chart, 1, 100);
        dueItems(chart, 2, 200);
        dueItems(feedAll(chart(p(0, 100, 101)), 101), 1);
        EarleyChart behind = feedAll(chart(p(0, 100, 101)), 100, 100);
        dueItems(behind, 1, 100);
        dueItems(behind, 2);
    }

    private static void completed() {
        promise("Terms, its dot at the end, with origin j: the items of set j go on in set k");
        EarleyChart later = feedAll(chart(p(0, 100, 1, 103), p(1, 101, 102)), 100, 101, 102, 103);
        dueItems(later, 1, 100, 1001);
        dueItems(later, 2, 1101);
        dueItems(later, 3, 200, 1201);
        dueItems(later, 4, 300);
        promise("Terms, also if j is k");
        dueItems(chart(p(0, 1, 100), p(1)), 0, 0, 100, 1000);
        dueItems(feedAll(chart(p(0, 100, 1, 101), p(1)), 100), 1, 100, 200, 1001);
        dueItems(chart(p(0, 1, 1, 1, 1), p(1)), 0, 0, 100, 200, 300, 400, 1000);
        dueItems(chart(p(0, 0), p(0)), 0, 0, 100, 1000);
        // Production 0 is the empty one.
        dueItems(chart(p(0), p(0, 0, 100)), 0, 0, 1000, 1100);
        dueItems(feedAll(chart(p(0), p(0, 100, 0)), 100), 1, 1, 1001, 1100, 1200);
        dueItems(chart(p(0, 1, 2), p(1, 2, 2), p(2, 3), p(3)), 0,
                0, 100, 200, 1000, 1100, 1200, 2000, 2100, 3000);
    }

    private static void accepted() {
        promise("Terms, ACCEPTED if the last set has an item ..");
        EarleyChart last = feedAll(chart(p(0, 100)), 100);
        dueTrue("the last set", last.accepts());
        dueFalse("only a set before the last", feedAll(last, 100).accepts());
        dueTrue("set 8", feedTimes(anyWord(), 100, 8).accepts());
        promise("Terms, ACCEPTED: .. of origin 0");
        Maker inner = () -> chart(p(0, 100, 0, 102), p(0, 101));
        dueFalse("only of origin 1", feedAll(inner.make(), 100, 101).accepts());
        dueTrue("of origin 0", feedAll(inner.make(), 100, 101, 102).accepts());
        promise("Terms, ACCEPTED: .. with a production of the start's variable");
        Maker other = () -> chart(p(0, 1, 101), p(1, 100), p(0, 102));
        dueFalse("of another variable", feedAll(other.make(), 100).accepts());
        dueTrue("of the start", feedAll(other.make(), 100, 101).accepts());
        dueTrue("not of production 0", feedAll(other.make(), 102).accepts());
        promise("Terms, ACCEPTED: .. and the dot at the end of its right side");
        Maker two = () -> chart(p(0, 100, 100));
        dueFalse("one before the end", feedAll(two.make(), 100).accepts());
        dueTrue("at the end", feedAll(two.make(), 100, 100).accepts());
        dueFalse("dot 0 of one symbol", chart(p(0, 100)).accepts());
        dueTrue("dot 0 of none", chart(p(0)).accepts());
    }

    private static void noProductions() {
        promise("Terms, a grammar without productions has empty sets and accepts nothing");
        Maker[] makers = {() -> new EarleyChart(6, 6), () -> {
            EarleyChart erased = extracted(feedAll(ambiguous(), 101, 100, 101));
            erased.erase();
            return erased;
        }};
        for (Maker maker : makers) {
            EarleyChart none = maker.make();
            due("items(0)", () -> none.items(0), 0);
            dueFalse("alive", none.alive());
            dueFalse("accepts", none.accepts());
            dueFalse("nullable(0)", none.nullable(0));
            due("steps(0, 0, 0)", () -> none.steps(0, 0, 0), -1);
            dueRefused("item(0, 0)", maker, chart -> chart.item(0, 0), INDEX);
            dueRefused("extract", maker, chart -> chart.extract(), ELEMENT);
            dueRefused("feed", maker, chart -> chart.feed(100), STATE);
            dueRefused("addRhs", maker, chart -> chart.addRhs(100), STATE);
            none.addProd(5);
            due("items(0) with one", () -> none.items(0), 1);
            dueTrue("alive with one", none.alive());
            dueTrue("accepts with one", none.accepts());
        }
    }

    private static void stepsOfToken() {
        promise("Terms, STEPS for a token 0, if the stretch is just that token");
        EarleyChart chart = feedAll(chart(p(0, 100)), 100, 101, 105, 100, 100, 100, 100, 101);
        due("the first", () -> chart.steps(100, 0, 1), 0);
        due("the second", () -> chart.steps(101, 1, 2), 0);
        due("a token of no production", () -> chart.steps(105, 2, 3), 0);
        due("the eighth", () -> chart.steps(101, 7, 8), 0);
        due("another one", () -> chart.steps(101, 0, 1), -1);
        due("the one before", () -> chart.steps(100, 1, 2), -1);
        due("the one behind", () -> chart.steps(105, 1, 2), -1);
        due("a variable's number", () -> chart.steps(1, 1, 2), -1);
        due("none", () -> chart.steps(100, 0, 0), -1);
        due("none at the end", () -> chart.steps(101, 8, 8), -1);
        due("two", () -> chart.steps(100, 3, 5), -1);
        due("all", () -> chart.steps(100, 0, 8), -1);
    }

    private static void stepsOfVariable() {
        promise("Terms, STEPS for a variable the fewest productions, each as often as it is used");
        due("used once", () -> chart(p(0, 1), p(1)).steps(0, 0, 0), 2);
        due("used twice", () -> chart(p(0, 1, 1), p(1)).steps(0, 0, 0), 3);
        due("used four times", () -> chart(p(0, 1, 1, 1, 1), p(1)).steps(0, 0, 0), 5);
        due("the fewer come first", () -> chart(p(0, 2), p(0, 1), p(1, 2), p(2)).steps(0, 0, 0), 2);
        due("the fewer come last", () -> chart(p(0, 1), p(1, 2), p(2), p(0, 2)).steps(0, 0, 0), 2);
        due("the fewest are one", () -> chart(p(0, 1), p(1), p(0)).steps(0, 0, 0), 1);
        due("not the start", () -> feedAll(chart(p(0), p(4, 100, 4), p(4)), 100, 100).steps(4, 0, 2), 3);
    }

    private static void stepsOfRow() {
        promise("Terms, STEPS of a row: the least sum over stretches that follow one another");
        // 1 over nothing and 2 over the token are 1 + 2; 1 over the token and 2 over nothing 1 + 1.
        Maker maker = () -> chart(p(0, 1, 2), p(1), p(1, 100), p(2, 3), p(2), p(3, 100));
        due("the second split is less", () -> feedAll(maker.make(), 100).steps(0, 0, 1), 3);
        Maker other = () -> chart(p(0, 2, 1), p(1), p(1, 100), p(2, 3), p(2), p(3, 100));
        due("the first split is less", () -> feedAll(other.make(), 100).steps(0, 0, 1), 3);
        due("no token between", () -> feedAll(chart(p(0, 100, 101)), 100, 105, 101).steps(0, 0, 3), -1);
        due("none left over", () -> feedAll(chart(p(0, 100, 101)), 100, 101, 101).steps(0, 0, 3), -1);
        due("not the other way round", () -> feedAll(chart(p(0, 100, 101)), 101, 100).steps(0, 0, 2), -1);
        due("one after another", () -> feedAll(chart(p(0, 100, 101)), 100, 101).steps(0, 0, 2), 1);
    }

    private static void stepsOfEmptyRow() {
        promise("Terms, STEPS of an empty row over an empty stretch 0");
        EarleyChart chart = feedTimes(chart(p(0)), 100, 8);
        for (int place = 0; place <= 8; place++) {
            int at = place;
            due("over nothing at " + place, () -> chart.steps(0, at, at), 1);
            if (place < 8) {
                due("over a token at " + place, () -> chart.steps(0, at, at + 1), -1);
            }
        }
        due("over all", () -> chart.steps(0, 0, 8), -1);
    }

    private static void noDerivation() {
        promise("Terms, -1 if there is no derivation");
        due("no production", () -> chart(p(0)).steps(1, 0, 0), -1);
        due("only itself", () -> chart(p(0, 0)).steps(0, 0, 0), -1);
        due("itself and a way out", () -> chart(p(0, 0), p(0)).steps(0, 0, 0), 1);
        due("one another", () -> chart(p(0, 1), p(1, 0)).steps(1, 0, 0), -1);
        due("one another and a way out", () -> chart(p(0, 1), p(1, 0), p(0)).steps(1, 0, 0), 2);
        due("a symbol that derives nothing", () -> chart(p(0, 1, 2), p(1)).steps(0, 0, 0), -1);
        due("a token too few", () -> feedAll(chart(p(0, 100, 100)), 100).steps(0, 0, 1), -1);
        due("a token too many", () -> feedAll(chart(p(0, 100)), 100, 100).steps(0, 0, 2), -1);
        due("just enough", () -> feedAll(chart(p(0, 100)), 100, 100).steps(0, 1, 2), 1);
    }

    private static void witnessOfTheStart() {
        promise("Terms, WITNESS: that of the start over all of the input");
        dueWitness(feedAll(chart(p(3, 100, 1), p(1), p(0, 100)), 100), 0, 1);
        EarleyChart chart = chart(p(0, 0, 100), p(0, 100));
        dueWitness(feedAll(chart, 100), 1);
        dueWitness(feedAll(chart, 100), 0, 1);
        dueWitness(feedAll(chart, 100), 0, 0, 1);
    }

    private static void lowestProduction() {
        promise("Terms, WITNESS: the lowest production whose right side has one step less");
        dueWitness(chart(p(0), p(0)), 0);
        dueWitness(chart(p(0, 0), p(0), p(0)), 1);
        dueWitness(chart(p(0, 1), p(0, 2), p(2), p(1)), 0, 3);
        dueWitness(chart(p(0, 1), p(0, 2), p(2), p(1, 2)), 1, 2);
        dueWitness(chart(p(0, 1), p(1), p(1), p(1)), 0, 1);
        // Production 0 has fewer steps over nothing, but the whole input is over a token.
        dueWitness(feedAll(chart(p(0), p(0, 1), p(0, 100), p(1, 100)), 100), 2);
        dueWitness(feedAll(chart(p(0, 100), p(0, 101), p(0, 101)), 101), 1);
    }

    private static void witnessOrder() {
        promise("Terms, WITNESS: then those of its right side's symbols, from the first on");
        dueWitness(chart(p(0, 1, 2, 1, 3), p(1, 2), p(2), p(3)), 0, 1, 2, 2, 1, 2, 3);
        dueWitness(chart(p(0, 3, 1, 2, 1), p(1, 2), p(2), p(3)), 0, 3, 1, 2, 2, 1, 2);
        dueWitness(feedAll(chart(p(0, 2, 100, 1), p(1, 102), p(2, 101)), 101, 100, 102), 0, 2, 1);
    }

    private static void shortestStretch() {
        promise("Terms, WITNESS: the shortest stretch with which the steps stay as few");
        dueWitness(feedAll(chart(p(0, 1, 1), p(1, 100), p(1)), 100), 0, 2, 1);
        dueWitness(feedAll(chart(p(0, 1, 1, 1, 1), p(1, 100), p(1)), 100, 100), 0, 2, 2, 1, 1);
        // A stretch of nothing would do for the first, but the row would have more steps.
        dueWitness(feedAll(chart(p(0, 1, 2), p(1), p(1, 100), p(2, 3), p(2), p(3, 100)), 100), 0, 2, 4);
        dueWitness(feedAll(chart(p(0, 1, 1), p(1, 100, 1), p(1, 100)), 100, 100, 100), 0, 2, 1, 2);
        promise("Terms, WITNESS: a token adds nothing");
        dueWitness(feedAll(chart(p(0, 100, 101, 102, 103)), 100, 101, 102, 103), 0);
        dueWitness(feedAll(chart(p(0, 100, 1, 101, 1), p(1, 102)), 100, 102, 101, 102), 0, 1, 1);
    }

    /** 148 steps over nothing, and three times as many for each token: the most that was found. */
    private static EarleyChart longest() {
        return chart(p(0, 1, 1, 1), p(1, 2, 2, 2), p(2, 3, 3, 3), p(3, 4, 4), p(4, 5), p(5),
                p(5, 100, 0, 0, 0));
    }

    private static void longestWitness() {
        promise("Terms, WITNESS: a long one that is under 8000 is whole");
        for (int tokens = 0; tokens <= 8; tokens++) {
            int due = 148 * (1 + 3 * tokens);
            EarleyChart chart = feedTimes(longest(), 100, tokens);
            int to = tokens;
            due("steps", () -> chart.steps(0, 0, to), due);
            due("extract", () -> chart.extract(), due);
            due("witCount", () -> chart.witCount(), due);
            due("the first", () -> chart.wit(0), 0);
            due("the last", () -> chart.wit(due - 1), 5);
            dueThrow("behind the last", () -> chart.wit(due), INDEX);
        }
    }

    private static void fiveHundredAndTwelveCalls() {
        promise("An object is used for at most 512 calls: the last one answers as the first");
        EarleyChart chart = chart(p(0, 100, 0), p(0)); // 4 calls
        for (int round = 0; round < 56; round++) { // 9 calls each
            feedTimes(chart, 100, 8);
            due("clear", () -> chart.clear(), 8);
        }
        feedAll(chart, 100, 100);
        due("call 511, extract", () -> chart.extract(), 3);
        due("call 512, wit", () -> chart.wit(2), 1);
        EarleyChart grown = new EarleyChart(6, 6);
        for (int round = 0; round < 64; round++) { // 8 calls each
            due("addProd", () -> grown.addProd(0), 0);
            due("addRhs", () -> grown.addRhs(100), 1);
            due("feed", () -> grown.feed(100), 1);
            due("extract", () -> grown.extract(), 1);
            due("clear", () -> grown.clear(), 1);
            dueThrow("extract", () -> grown.extract(), ELEMENT);
            due("witCount", () -> grown.witCount(), 0);
            due("erase", () -> grown.erase(), 1);
        }
    }
}
