/** Each promise of the document, by name: ordinary inputs, the edges, and wrong inputs. */
public final class EarleyChartTest extends ChartChecks {
    public static void main(String[] args) {
        newObject();
        addProd();
        addRhs();
        feed();
        alive();
        accepts();
        extract();
        extractChoosesTheLowestAndTheShortest();
        extractLong();
        witCount();
        wit();
        clear();
        erase();
        items();
        item();
        itemsOfRoundAndEmptyProductions();
        steps();
        stepsOfRoundProductions();
        nullable();
        fed();
        end("all promises hold");
    }

    private static void newObject() {
        promise("1 new object");
        int[] asked = {Integer.MIN_VALUE, -1, 0, 1, 2, 3, 4, 5, 6, 7, 9, Integer.MAX_VALUE};
        for (int a : asked) {
            int due = a >= 1 && a <= 6 ? a : 4;
            due("variables of " + a, () -> countVariables(new EarleyChart(a, 2)), due);
            due("tokens beside " + a, () -> countTokens(new EarleyChart(a, 2)), 2);
            due("tokens of " + a, () -> countTokens(new EarleyChart(3, a)), due);
            due("variables beside " + a, () -> countVariables(new EarleyChart(3, a)), 3);
        }
        EarleyChart chart = new EarleyChart(2, 2);
        due("fed", () -> chart.fed(), 0);
        due("witCount", () -> chart.witCount(), 0);
        due("items(0)", () -> chart.items(0), 0);
        dueFalse("alive", chart.alive());
        dueFalse("accepts", chart.accepts());
        due("steps", () -> chart.steps(0, 0, 0), -1);
        due("clear", () -> chart.clear(), 0);
        due("erase", () -> chart.erase(), 0);
    }

    private static void addProd() {
        promise("2 addProd");
        EarleyChart chart = new EarleyChart(3, 2);
        for (int wrongVariable : new int[] {-1, 3, 99, 100, 101, Integer.MIN_VALUE}) {
            dueThrow("a wrong variable", () -> chart.addProd(wrongVariable), ARGUMENT);
        }
        due("items(0)", () -> chart.items(0), 0);
        for (int i = 0; i < 8; i++) {
            int number = i;
            due("production " + i, () -> chart.addProd(2 - number % 3), i);
        }
        dueThrow("the ninth", () -> chart.addProd(0), STATE);
        dueThrow("the ninth, wrong", () -> chart.addProd(-1), STATE);
        dueItems(chart, 0, 0, 3000, 6000);
        EarleyChart begun = feedAll(chart(p(0, 100)), 100);
        dueThrow("after a token", () -> begun.addProd(0), STATE);
        dueThrow("after a token, wrong", () -> begun.addProd(77), STATE);
        begun.clear();
        due("after clear", () -> begun.addProd(0), 1);
        EarleyChart told = chart(p(0));
        due("extract", () -> told.extract(), 1);
        due("another", () -> told.addProd(5), 1);
        due("witCount", () -> told.witCount(), 0);
        dueTrue("accepts", told.accepts());
    }

    private static void addRhs() {
        promise("3 addRhs");
        EarleyChart chart = new EarleyChart(2, 3);
        dueThrow("no production", () -> chart.addRhs(0), STATE);
        dueThrow("no production, wrong", () -> chart.addRhs(50), STATE);
        chart.addProd(0);
        for (int wrongSymbol : new int[] {-1, 2, 99, 103, Integer.MIN_VALUE, Integer.MAX_VALUE}) {
            dueThrow("a wrong symbol", () -> chart.addRhs(wrongSymbol), ARGUMENT);
        }
        int[] symbols = {1, 102, 0, 100};
        for (int i = 0; i < 4; i++) {
            int symbol = symbols[i];
            due("symbol " + (i + 1), () -> chart.addRhs(symbol), i + 1);
        }
        dueThrow("the fifth", () -> chart.addRhs(0), STATE);
        dueThrow("the fifth, wrong", () -> chart.addRhs(-1), STATE);
        chart.addProd(1);
        due("of the next one", () -> chart.addRhs(101), 1);

        EarleyChart full = chart(p(0, 1, 1, 1, 1), p(1, 2, 2, 2, 2), p(2, 3, 3, 3, 3), p(3, 4, 4, 4));
        full.addProd(4);
        due("the sixteenth", () -> full.addRhs(100), 1);
        dueThrow("the seventeenth", () -> full.addRhs(100), STATE);
        dueThrow("the seventeenth, wrong", () -> full.addRhs(99), STATE);
        due("an empty one still", () -> full.addProd(5), 5);
        dueThrow("its symbol", () -> full.addRhs(100), STATE);
        due("erase", () -> full.erase(), 6);
        full.addProd(0);
        due("the room is back", () -> full.addRhs(100), 1);

        EarleyChart begun = feedAll(chart(p(0, 100)), 100);
        dueThrow("after a token", () -> begun.addRhs(100), STATE);
        dueThrow("after a token, wrong", () -> begun.addRhs(-5), STATE);
        EarleyChart told = chart(p(0), p(1));
        told.extract();
        due("a symbol", () -> told.addRhs(100), 1);
        due("witCount", () -> told.witCount(), 0);
        dueFalse("nullable(1)", told.nullable(1));
    }

    private static void feed() {
        promise("4 feed");
        EarleyChart none = new EarleyChart(2, 2);
        dueThrow("no production", () -> none.feed(100), STATE);
        dueThrow("no production, wrong", () -> none.feed(0), STATE);
        EarleyChart chart = new EarleyChart(2, 2);
        addAll(chart, p(0, 0, 100, 0), p(0, 101));
        for (int wrongToken : new int[] {-1, 0, 1, 99, 102, Integer.MIN_VALUE, Integer.MAX_VALUE}) {
            dueThrow("a wrong token", () -> chart.feed(wrongToken), ARGUMENT);
        }
        int[] sizes = {2, 3, 4, 4, 6, 5, 8, 6};
        for (int i = 0; i < 8; i++) {
            int token = i % 2 == 0 ? 101 : 100;
            due("token " + (i + 1), () -> chart.feed(token), sizes[i]);
        }
        dueThrow("the ninth", () -> chart.feed(101), STATE);
        dueThrow("the ninth, wrong", () -> chart.feed(-1), STATE);
        EarleyChart dead = ambiguous();
        due("a token that does not fit", () -> dead.feed(100), 0);
        due("and one after it", () -> dead.feed(101), 0);
        due("fed", () -> dead.fed(), 2);
        EarleyChart told = feedAll(ambiguous(), 101);
        told.extract();
        due("one more", () -> told.feed(100), 3);
        due("witCount", () -> told.witCount(), 0);
    }

    private static void alive() {
        promise("5 alive");
        EarleyChart chart = new EarleyChart(2, 2);
        dueFalse("no productions", chart.alive());
        chart.addProd(1);
        dueTrue("an empty production", chart.alive());
        chart.addRhs(100);
        dueTrue("before the token", chart.alive());
        chart.feed(100);
        dueTrue("after the token", chart.alive());
        chart.feed(100);
        dueFalse("after a token too many", chart.alive());
        chart.clear();
        dueTrue("after clear", chart.alive());
        chart.erase();
        dueFalse("after erase", chart.alive());
        EarleyChart useless = chart(p(0, 1));
        dueTrue("a variable without productions", useless.alive());
    }

    private static void accepts() {
        promise("6 accepts");
        EarleyChart chart = ambiguous();
        dueFalse("nothing", chart.accepts());
        for (int i = 0; i < 8; i++) {
            chart.feed(i % 2 == 0 ? 101 : 100);
            report("after " + (i + 1), String.valueOf(chart.accepts()), String.valueOf(i % 2 == 0));
        }
        dueTrue("an empty production", chart(p(0)).accepts());
        dueTrue("a later production of the start", chart(p(3, 3, 100), p(3)).accepts());
        dueFalse("an empty production of another", chart(p(3, 100), p(0)).accepts());
        // The inner b is whole, but not from the origin 0; the outer one is not whole.
        dueFalse("an inner start", feedAll(chart(p(0, 100, 0, 102), p(0, 101)), 100, 101).accepts());
        // Whole from origin 0, but not of the start's variable.
        dueFalse("another variable", feedAll(chart(p(0, 1, 101), p(1, 100)), 100).accepts());
        // Empty variables whose items were advanced before they were found to be empty.
        EarleyChart hidden = chart(p(0, 1, 0, 100), p(0, 1), p(1, 2, 2), p(2));
        dueTrue("hidden emptiness", hidden.accepts());
        dueTrue("hidden left recursion", feedAll(hidden, 100, 100, 100).accepts());
        // Two empty variables that go round.
        EarleyChart round = chart(p(0, 0, 1), p(0, 1, 0), p(1, 0), p(1), p(0));
        dueTrue("round", round.accepts());
        dueFalse("round with a token", feedAll(round, 100).accepts());
        EarleyChart far = chart(p(0, 1), p(1, 2), p(2, 3), p(3, 4), p(4, 5), p(5, 0), p(5, 105, 5), p(5));
        dueTrue("a long round", feedAll(far, 105, 105, 105, 105, 105, 105, 105, 105).accepts());
    }

    private static void extract() {
        promise("7 extract");
        EarleyChart none = new EarleyChart(1, 1);
        dueThrow("no productions", () -> none.extract(), ELEMENT);
        EarleyChart chart = ambiguous();
        dueThrow("nothing fed", () -> chart.extract(), ELEMENT);
        feedAll(chart, 101);
        dueWitness(chart, 1);
        feedAll(chart, 100);
        dueThrow("not accepted", () -> chart.extract(), ELEMENT);
        due("witCount", () -> chart.witCount(), 0);
        feedAll(chart, 101);
        dueWitness(chart, 0, 1, 1);
        dueWitness(chart, 0, 1, 1);
        feedAll(chart, 100, 101);
        dueWitness(chart, 0, 1, 0, 1, 1);
        dueWitness(chart(p(2, 1, 1), p(1)), 0, 1, 1);
        dueWitness(chart(p(0)), 0);
    }

    private static void extractChoosesTheLowestAndTheShortest() {
        promise("7 extract, the choice");
        // Two ways of as many steps: the lower production. A longer way of a lower one does not count.
        dueWitness(chart(p(0, 1), p(0, 2), p(1), p(2)), 0, 2);
        dueWitness(chart(p(0, 1), p(0, 2), p(2), p(1, 2)), 1, 2);
        dueWitness(chart(p(0, 1), p(0), p(1)), 1);
        dueWitness(chart(p(0, 0), p(0)), 1);
        // S -> A A, A -> a A | a | : the first A takes nothing of one token, but two ways tie only so.
        dueWitness(feedAll(chart(p(0, 1, 1), p(1, 100, 1), p(1, 100), p(1)), 100), 0, 3, 2);
        dueWitness(feedAll(chart(p(0, 1, 1), p(1, 100, 1), p(1, 100)), 100, 100, 100), 0, 2, 1, 2);
        // The first symbol takes the shortest stretch that keeps the row's steps, not the shortest at all.
        dueWitness(feedAll(chart(p(0, 1, 2), p(1), p(1, 100), p(2, 3), p(2), p(3, 100)), 100), 0, 2, 4);
        // Three symbols: the second also takes the shortest.
        dueWitness(feedAll(chart(p(0, 1, 1, 1), p(1, 100), p(1)), 100), 0, 2, 2, 1);
        // Tokens among variables add nothing.
        dueWitness(feedAll(chart(p(0, 100, 1, 102), p(1, 101)), 100, 101, 102), 0, 1);
    }

    private static void extractLong() {
        promise("7 extract, long");
        // Five variables of three each under S -> a S B B: 121 steps for each B.
        EarleyChart chart = chart(p(0, 100, 0, 1, 1), p(0), p(1, 2, 2, 2), p(2, 3, 3, 3),
                p(3, 4, 4, 4), p(4, 5, 5, 5), p(5));
        feedAll(chart, 100, 100, 100, 100, 100, 100, 100, 100);
        due("steps of the empty one", () -> chart.steps(1, 8, 8), 121);
        due("steps", () -> chart.steps(0, 0, 8), 8 * 243 + 1);
        due("extract", () -> chart.extract(), 8 * 243 + 1);
        for (int i = 0; i < 8; i++) {
            int number = i;
            due("wit(" + i + ")", () -> chart.wit(number), 0);
        }
        int[] then = {1, 2, 3, 4, 5, 6, 6, 6, 5, 6};
        for (int i = 0; i < then.length; i++) {
            int number = 8 + i;
            due("wit(" + number + ")", () -> chart.wit(number), then[i]);
        }
        due("the last", () -> chart.wit(8 * 243), 6);
        dueThrow("behind the last", () -> chart.wit(8 * 243 + 1), INDEX);
        for (int again = 0; again < 100; again++) {
            due("extract again", () -> chart.extract(), 8 * 243 + 1);
        }
    }

    private static void witCount() {
        promise("8 witCount");
        EarleyChart chart = feedAll(ambiguous(), 101, 100, 101);
        due("before extract", () -> chart.witCount(), 0);
        chart.extract();
        due("after extract", () -> chart.witCount(), 3);
        chart.accepts();
        chart.items(0);
        chart.steps(0, 0, 1);
        due("after calls that only tell", () -> chart.witCount(), 3);
        chart.clear();
        due("after clear", () -> chart.witCount(), 0);
    }

    private static void wit() {
        promise("9 wit");
        EarleyChart chart = feedAll(ambiguous(), 101, 100, 101);
        dueThrow("before extract", () -> chart.wit(0), INDEX);
        chart.extract();
        due("wit(0)", () -> chart.wit(0), 0);
        due("wit(1)", () -> chart.wit(1), 1);
        due("wit(2)", () -> chart.wit(2), 1);
        dueThrow("wit(3)", () -> chart.wit(3), INDEX);
        for (int far : FAR) {
            dueThrow("wit(" + far + ")", () -> chart.wit(far), INDEX);
        }
        chart.feed(100);
        dueThrow("after feed", () -> chart.wit(0), INDEX);
    }

    private static void clear() {
        promise("10 clear");
        EarleyChart chart = feedAll(ambiguous(), 101, 100, 101);
        chart.extract();
        due("clear", () -> chart.clear(), 3);
        due("clear again", () -> chart.clear(), 0);
        dueSame("after clear", () -> cleared(), () -> ambiguous());
        dueSame("another input", () -> feedAll(cleared(), 101), () -> feedAll(ambiguous(), 101));
        due("the grammar goes on", () -> chart.addRhs(102), 2);
        due("its number", () -> chart.addProd(0), 2);
        EarleyChart told = chart(p(0));
        told.extract();
        due("clear of nothing", () -> told.clear(), 0);
        due("witCount", () -> told.witCount(), 0);
        EarleyChart full = feedAll(chart(p(0, 100, 0), p(0)), 100, 100, 100, 100, 100, 100, 100, 100);
        due("clear of eight", () -> full.clear(), 8);
        due("feed after it", () -> full.feed(100), 4);
    }

    private static EarleyChart cleared() {
        EarleyChart chart = extracted(feedAll(ambiguous(), 101, 100, 101));
        chart.clear();
        return chart;
    }

    private static EarleyChart erased() {
        EarleyChart chart = extracted(feedAll(ambiguous(), 101, 100, 101));
        chart.erase();
        return chart;
    }

    private static void erase() {
        promise("11 erase");
        EarleyChart chart = feedAll(ambiguous(), 101, 100, 101);
        chart.extract();
        due("erase", () -> chart.erase(), 2);
        dueSame("after erase", () -> erased(), () -> new EarleyChart(6, 6));
        due("erase again", () -> chart.erase(), 0);
        dueThrow("feed", () -> chart.feed(100), STATE);
        dueThrow("addRhs", () -> chart.addRhs(100), STATE);
        due("a production", () -> chart.addProd(4), 0);
        dueItems(chart, 0, 0);
        dueTrue("accepts", chart.accepts());
        EarleyChart smaller = chart(p(0, 1), p(1));
        smaller.erase();
        smaller.addProd(0);
        smaller.addRhs(1);
        dueItems(smaller, 0, 0);
        dueFalse("nullable(1) of before", smaller.nullable(1));
        EarleyChart eight = chart(p(0), p(0), p(0), p(0), p(0), p(0), p(0), p(0));
        due("erase of eight", () -> eight.erase(), 8);
        due("the first again", () -> eight.addProd(1), 0);
        EarleyChart small = new EarleyChart(2, 1);
        small.erase();
        due("V stays", () -> countVariables(small), 2);
        due("T stays", () -> countTokens(small), 1);
    }

    private static void items() {
        promise("12 items");
        EarleyChart none = new EarleyChart(2, 2);
        due("items(0) without productions", () -> none.items(0), 0);
        dueThrow("items(1) without productions", () -> none.items(1), INDEX);
        EarleyChart chart = feedAll(ambiguous(), 101, 100);
        int[] sizes = {2, 2, 3};
        for (int k = 0; k < 3; k++) {
            int set = k;
            due("items(" + k + ")", () -> chart.items(set), sizes[k]);
        }
        dueThrow("items(3)", () -> chart.items(3), INDEX);
        for (int far : FAR) {
            dueThrow("items(" + far + ")", () -> chart.items(far), INDEX);
        }
        chart.clear();
        dueThrow("items(1) after clear", () -> chart.items(1), INDEX);
    }

    private static void item() {
        promise("13 item");
        EarleyChart chart = feedAll(ambiguous(), 101, 100, 101, 100, 101);
        dueItems(chart, 0, 0, 1000);
        dueItems(chart, 1, 100, 1100);
        dueItems(chart, 2, 2, 200, 1002);
        dueItems(chart, 3, 100, 102, 300, 1102);
        dueItems(chart, 4, 4, 200, 202, 1004);
        dueItems(chart, 5, 100, 102, 104, 300, 302, 1104);
        dueThrow("behind the last", () -> chart.item(5, 6), INDEX);
        dueThrow("no such set", () -> chart.item(6, 0), INDEX);
        for (int far : FAR) {
            dueThrow("item(" + far + ", 0)", () -> chart.item(far, 0), INDEX);
            dueThrow("item(0, " + far + ")", () -> chart.item(0, far), INDEX);
        }
        EarleyChart none = new EarleyChart(2, 2);
        dueThrow("without productions", () -> none.item(0, 0), INDEX);
        EarleyChart dead = feedAll(ambiguous(), 100);
        dueThrow("of an empty set", () -> dead.item(1, 0), INDEX);
    }

    private static void itemsOfRoundAndEmptyProductions() {
        promise("12, 13 round and empty");
        dueItems(chart(p(0, 0), p(0)), 0, 0, 100, 1000);
        dueItems(chart(p(0, 0)), 0, 0);
        dueItems(chart(p(1, 2), p(2, 1), p(2)), 0, 0, 100, 1000, 1100, 2000);
        dueItems(chart(p(0, 1, 1), p(1)), 0, 0, 100, 200, 1000);
        // The empty production comes to the set after the item that waits for it was looked at.
        dueItems(chart(p(0, 2, 1), p(1), p(2, 1, 1)), 0, 0, 100, 200, 1000, 2000, 2100, 2200);
        // Only the start's productions are in set 0, unless a dot stands before another variable.
        dueItems(chart(p(1, 100, 0), p(0, 101), p(1, 0)), 0, 0, 1000, 2000);
        dueItems(chart(p(1, 100, 0), p(0, 101)), 0, 0);
        EarleyChart twice = feedAll(chart(p(0, 100), p(0, 100), p(0, 0, 0)), 100);
        dueItems(twice, 1, 1, 100, 1001, 1100, 2001, 2100);
    }

    private static void steps() {
        promise("14 steps");
        EarleyChart chart = new EarleyChart(3, 2);
        addAll(chart, p(0, 0, 100, 0), p(0, 101), p(1));
        for (int wrongSymbol : new int[] {-1, 3, 99, 102, Integer.MIN_VALUE, Integer.MAX_VALUE}) {
            dueThrow("a wrong symbol", () -> chart.steps(wrongSymbol, 0, 0), ARGUMENT);
            dueThrow("a wrong symbol over no stretch", () -> chart.steps(wrongSymbol, 5, 2), ARGUMENT);
        }
        feedAll(chart, 101, 100, 101, 100, 101);
        due("all", () -> chart.steps(0, 0, 5), 5);
        due("the first three", () -> chart.steps(0, 0, 3), 3);
        due("the last three", () -> chart.steps(0, 2, 5), 3);
        due("one", () -> chart.steps(0, 4, 5), 1);
        due("none there", () -> chart.steps(0, 1, 3), -1);
        due("not empty", () -> chart.steps(0, 2, 2), -1);
        due("an empty one that the start never reaches", () -> chart.steps(1, 3, 3), 1);
        due("it has no token", () -> chart.steps(1, 3, 4), -1);
        due("a variable without productions", () -> chart.steps(2, 0, 0), -1);
        due("a token", () -> chart.steps(101, 4, 5), 0);
        due("another token", () -> chart.steps(100, 4, 5), -1);
        due("a token over nothing", () -> chart.steps(101, 4, 4), -1);
        due("a token over two", () -> chart.steps(101, 0, 2), -1);
        int[][] none = {{-1, 0}, {0, -1}, {0, 6}, {6, 6}, {1, 0}, {5, 4}, {Integer.MIN_VALUE, 0},
            {0, Integer.MAX_VALUE}, {Integer.MAX_VALUE, Integer.MIN_VALUE}};
        for (int[] pair : none) {
            dueThrow("no stretch", () -> chart.steps(0, pair[0], pair[1]), INDEX);
            dueThrow("no stretch of a token", () -> chart.steps(100, pair[0], pair[1]), INDEX);
        }
        chart.clear();
        dueThrow("after clear", () -> chart.steps(0, 0, 1), INDEX);
        due("empty after clear", () -> chart.steps(1, 0, 0), 1);
        feedAll(chart, 100, 101);
        due("of another input", () -> chart.steps(0, 1, 2), 1);
        due("of another input, none", () -> chart.steps(0, 0, 1), -1);
    }

    private static void stepsOfRoundProductions() {
        promise("14 steps, round");
        EarleyChart chart = chart(p(0, 1), p(1, 2), p(2, 3), p(3, 4), p(4, 5), p(5, 0), p(5, 100), p(5));
        feedAll(chart, 100);
        for (int variable = 0; variable < 6; variable++) {
            int symbol = variable;
            due("over the token " + variable, () -> chart.steps(symbol, 0, 1), 6 - variable);
            due("over nothing " + variable, () -> chart.steps(symbol, 1, 1), 6 - variable);
        }
        // The same round, but told the other way about.
        EarleyChart back = chart(p(5, 100), p(5), p(5, 0), p(4, 5), p(3, 4), p(2, 3), p(1, 2), p(0, 1));
        feedAll(back, 100);
        due("back, over the token", () -> back.steps(0, 0, 1), 6);
        due("back, over nothing", () -> back.steps(0, 0, 0), 6);
        // Fewer steps are found only later: the dear way comes first.
        EarleyChart dear = chart(p(0, 1, 1, 1), p(1), p(0, 2), p(2, 3), p(3));
        due("the cheaper way", () -> dear.steps(0, 0, 0), 3);
        EarleyChart never = chart(p(0, 0, 0), p(0, 1), p(1, 0));
        due("no end", () -> never.steps(0, 0, 0), -1);
    }

    private static void nullable() {
        promise("15 nullable");
        EarleyChart chart = new EarleyChart(4, 2);
        addAll(chart, p(0, 1, 2), p(1), p(2, 1, 1), p(2, 100), p(3, 1, 100));
        dueTrue("0", chart.nullable(0));
        dueTrue("1", chart.nullable(1));
        dueTrue("2", chart.nullable(2));
        dueFalse("3", chart.nullable(3));
        for (int wrongVariable : new int[] {-1, 4, 5, 99, 100, 101, Integer.MIN_VALUE}) {
            dueThrow("a wrong variable", () -> chart.nullable(wrongVariable) ? 1 : 0, ARGUMENT);
        }
        feedAll(chart, 100);
        dueTrue("0 after a token", chart.nullable(0));
        dueFalse("3 after a token", chart.nullable(3));
        EarleyChart round = chart(p(0, 0), p(1, 2), p(2, 1), p(2));
        dueFalse("only itself", round.nullable(0));
        dueTrue("a round with a way out", round.nullable(1));
        dueFalse("no production", round.nullable(5));
        round.addRhs(101);
        dueFalse("no longer", round.nullable(1));
    }

    private static void fed() {
        promise("16 fed");
        EarleyChart chart = chart(p(0, 100));
        due("nothing", () -> chart.fed(), 0);
        for (int i = 1; i <= 8; i++) {
            chart.feed(100 + i % 6);
            due("after " + i, () -> chart.fed(), i);
        }
        dueThrow("the ninth", () -> chart.feed(100), STATE);
        due("after the ninth", () -> chart.fed(), 8);
        chart.clear();
        due("after clear", () -> chart.fed(), 0);
        chart.feed(100);
        chart.erase();
        due("after erase", () -> chart.fed(), 0);
    }
}
