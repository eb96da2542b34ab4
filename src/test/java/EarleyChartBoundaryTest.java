/** The boundary cases of promises 1 to 16, sentence by sentence: just inside, just outside. */
public final class EarleyChartBoundaryTest extends ChartChecks {
    /** Symbols that no chart of six variables and six tokens has. */
    private static final int[] WRONG_SYMBOLS = {-1, 6, 99, 106, Integer.MIN_VALUE, Integer.MAX_VALUE};
    private static final int[] WRONG_VARIABLES = {-1, 6, 99, 100, 105, Integer.MIN_VALUE, Integer.MAX_VALUE};
    private static final int[] WRONG_TOKENS = {-1, 0, 5, 99, 106, Integer.MIN_VALUE, Integer.MAX_VALUE};

    public static void main(String[] args) {
        newObject();
        newObjectIsEmpty();
        addProd();
        addProdEmptiesTheWitness();
        addProdAfterAToken();
        addProdAfterEight();
        addProdOfNoVariable();
        addRhs();
        addRhsEmptiesTheWitness();
        addRhsAfterAToken();
        addRhsWithoutProduction();
        addRhsAfterFour();
        addRhsAfterSixteen();
        addRhsOfNoSymbol();
        feed();
        feedEmptiesTheWitness();
        feedWithoutProduction();
        feedAfterEight();
        feedOfNoToken();
        alive();
        accepts();
        extract();
        extractOfWhatIsNotAccepted();
        witCount();
        wit();
        clear();
        clearKeepsTheGrammar();
        erase();
        eraseLeavesNothing();
        items();
        item();
        itemOrder();
        itemOfTheFullestSet();
        steps();
        stepsOfNoSymbol();
        stepsOfNoStretch();
        nullable();
        fed();
        aCallThatThrowsChangesNothing();
        end("all boundaries hold");
    }

    // Promise 1

    private static void newObject() {
        promise("1, V is variables if that is 1 .. 6, else 4; T is tokens if that is 1 .. 6, else 4");
        int[] asked = {Integer.MIN_VALUE, Integer.MIN_VALUE + 1, -4, -1, 0, 1, 2, 3, 4, 5, 6, 7, 8, 100,
            257, 65537, Integer.MAX_VALUE};
        for (int variables : asked) {
            for (int tokens : asked) {
                EarleyChart chart = new EarleyChart(variables, tokens);
                String of = " of (" + variables + ", " + tokens + ")";
                due("V" + of, () -> countVariables(chart), oneToSixElseFour(variables));
                due("T" + of, () -> countTokens(chart), oneToSixElseFour(tokens));
            }
        }
    }

    private static int oneToSixElseFour(int asked) {
        return asked >= 1 && asked <= 6 ? asked : 4;
    }

    private static void newObjectIsEmpty() {
        promise("1, no productions, nothing fed, no witness");
        for (int asked : new int[] {Integer.MIN_VALUE, 0, 1, 6, 7, Integer.MAX_VALUE}) {
            Maker maker = () -> new EarleyChart(asked, asked);
            due("fed", () -> maker.make().fed(), 0);
            due("items(0)", () -> maker.make().items(0), 0);
            dueThrow("items(1)", () -> maker.make().items(1), INDEX);
            due("witCount", () -> maker.make().witCount(), 0);
            dueThrow("wit(0)", () -> maker.make().wit(0), INDEX);
            due("clear", () -> maker.make().clear(), 0);
            due("erase", () -> maker.make().erase(), 0);
            due("the first production", () -> maker.make().addProd(0), 0);
        }
    }

    // Promise 2

    private static Maker empties(int count) {
        return () -> {
            EarleyChart chart = new EarleyChart(6, 6);
            for (int i = 0; i < count; i++) {
                chart.addProd(i % 6);
            }
            return chart;
        };
    }

    private static void addProd() {
        promise("2, a new production of a variable, with an empty right side: its number");
        for (int count = 0; count < 8; count++) {
            Maker before = empties(count);
            due("after " + count, () -> before.make().addProd(0), count);
            due("after " + count + ", the last variable", () -> before.make().addProd(5), count);
        }
        EarleyChart chart = chart(p(0, 1), p(1, 100));
        dueFalse("nullable before", chart.nullable(1));
        due("the third", () -> chart.addProd(1), 2);
        dueTrue("nullable then", chart.nullable(1));
        dueItems(chart, 0, 0, 100, 1000, 2000);
        due("its first symbol", () -> chart.addRhs(101), 1);
    }

    private static void addProdEmptiesTheWitness() {
        promise("2, the witness is empty then");
        Maker told = () -> extracted(chart(p(0)));
        due("before", () -> told.make().witCount(), 1);
        EarleyChart chart = told.make();
        chart.addProd(5);
        due("witCount", () -> chart.witCount(), 0);
        dueThrow("wit(0)", () -> chart.wit(0), INDEX);
        dueTrue("still accepted", chart.accepts());
        due("extract", () -> chart.extract(), 1);
        dueRefused("a refused one leaves it", told, c -> c.addProd(6), ARGUMENT);
        EarleyChart refused = told.make();
        outcome(() -> refused.addProd(6));
        due("witCount after a refused one", () -> refused.witCount(), 1);
    }

    private static void addProdAfterAToken() {
        promise("2, throws IllegalStateException if a token was fed");
        Maker begun = () -> chart(p(0, 100, 0), p(0));
        due("nothing fed", () -> begun.make().addProd(1), 2);
        for (int count = 1; count <= 8; count++) {
            int tokens = count;
            Maker after = () -> feedTimes(begun.make(), 100, tokens);
            dueRefused(count + " fed", after, chart -> chart.addProd(1), STATE);
            for (int wrong : WRONG_VARIABLES) {
                dueThrow(count + " fed, " + wrong, () -> after.make().addProd(wrong), STATE);
            }
            due(count + " fed and cleared", () -> {
                EarleyChart chart = after.make();
                chart.clear();
                return chart.addProd(1);
            }, 2);
        }
        dueRefused("a dead input", () -> feedAll(begun.make(), 105), chart -> chart.addProd(1), STATE);
    }

    private static void addProdAfterEight() {
        promise("2, throws IllegalStateException if there are 8 productions");
        due("with seven", () -> empties(7).make().addProd(5), 7);
        dueRefused("with eight", empties(8), chart -> chart.addProd(5), STATE);
        for (int wrong : WRONG_VARIABLES) {
            dueThrow("with seven, " + wrong, () -> empties(7).make().addProd(wrong), ARGUMENT);
            dueRefused("with eight, " + wrong, empties(8), chart -> chart.addProd(wrong), STATE);
        }
        Maker both = () -> feedAll(empties(8).make(), 100);
        dueRefused("with eight and a token", both, chart -> chart.addProd(5), STATE);
        dueRefused("with eight, a token and no variable", both, chart -> chart.addProd(-1), STATE);
        due("with eight, erased", () -> {
            EarleyChart chart = empties(8).make();
            chart.erase();
            return chart.addProd(5);
        }, 0);
    }

    private static void addProdOfNoVariable() {
        promise("2, else IllegalArgumentException if there is no such variable");
        for (int v = 1; v <= 6; v++) {
            int variables = v;
            Maker maker = () -> new EarleyChart(variables, 6);
            due("the last of " + v, () -> maker.make().addProd(variables - 1), 0);
            dueRefused("behind the last of " + v, maker, chart -> chart.addProd(variables), ARGUMENT);
            dueRefused("before the first of " + v, maker, chart -> chart.addProd(-1), ARGUMENT);
        }
        for (int wrong : WRONG_VARIABLES) {
            dueRefused("" + wrong, empties(3), chart -> chart.addProd(wrong), ARGUMENT);
        }
        for (int far : FAR) {
            dueRefused("" + far, empties(3), chart -> chart.addProd(far), ARGUMENT);
        }
    }

    // Promise 3

    private static void addRhs() {
        promise("3, the right side of the last production gets one more symbol: how many it has then");
        EarleyChart chart = chart(p(0, 1), p(1));
        due("the first", () -> chart.addRhs(100), 1);
        due("the second", () -> chart.addRhs(5), 2);
        due("the third", () -> chart.addRhs(105), 3);
        due("the fourth", () -> chart.addRhs(0), 4);
        dueItems(feedAll(chart, 100), 1, 1100);
        EarleyChart last = chart(p(0, 1, 101), p(1, 100));
        last.addProd(2);
        due("of the last, not of the longest", () -> last.addRhs(100), 1);
        dueItems(feedAll(last, 100), 1, 100, 1100);
        dueWitness(feedAll(last, 101), 0, 1);
    }

    private static void addRhsEmptiesTheWitness() {
        promise("3, the witness is empty then");
        Maker told = () -> extracted(chart(p(0), p(1)));
        due("before", () -> told.make().witCount(), 1);
        EarleyChart chart = told.make();
        chart.addRhs(100);
        due("witCount", () -> chart.witCount(), 0);
        dueThrow("wit(0)", () -> chart.wit(0), INDEX);
        dueTrue("still accepted", chart.accepts());
        dueRefused("a refused one leaves it", told, c -> c.addRhs(106), ARGUMENT);
        EarleyChart refused = told.make();
        outcome(() -> refused.addRhs(106));
        due("witCount after a refused one", () -> refused.witCount(), 1);
    }

    /** For a state in which no symbol can be added: a right one is refused, and so is a wrong one. */
    private static void dueNoSymbol(String what, Maker maker) {
        for (int symbol : new int[] {0, 5, 100, 105}) {
            dueRefused(what + ", " + symbol, maker, chart -> chart.addRhs(symbol), STATE);
        }
        for (int wrong : WRONG_SYMBOLS) {
            dueRefused(what + ", " + wrong, maker, chart -> chart.addRhs(wrong), STATE);
        }
    }

    private static void addRhsAfterAToken() {
        promise("3, throws IllegalStateException if a token was fed");
        Maker begun = () -> chart(p(0, 100, 0), p(0));
        due("nothing fed", () -> begun.make().addRhs(101), 1);
        dueNoSymbol("one fed", () -> feedAll(begun.make(), 100));
        dueNoSymbol("eight fed", () -> feedTimes(begun.make(), 100, 8));
        dueNoSymbol("a dead input", () -> feedAll(begun.make(), 105));
        due("one fed and cleared", () -> {
            EarleyChart chart = feedAll(begun.make(), 100);
            chart.clear();
            return chart.addRhs(101);
        }, 1);
    }

    private static void addRhsWithoutProduction() {
        promise("3, throws IllegalStateException if there is no production");
        dueNoSymbol("a new object", () -> new EarleyChart(6, 6));
        dueNoSymbol("an erased one", () -> {
            EarleyChart chart = chart(p(0, 100));
            chart.erase();
            return chart;
        });
        due("with one", () -> chart(p(0)).addRhs(100), 1);
    }

    private static void addRhsAfterFour() {
        promise("3, throws IllegalStateException if it has 4");
        due("it has three", () -> chart(p(0, 1, 1, 1)).addRhs(105), 4);
        dueNoSymbol("it has four", () -> chart(p(0, 1, 1, 1, 1)));
        dueNoSymbol("the second has four", () -> chart(p(0), p(0, 100, 1, 1, 1)));
        due("only the one before has four", () -> chart(p(0, 1, 1, 1, 1), p(0)).addRhs(105), 1);
    }

    private static void addRhsAfterSixteen() {
        promise("3, throws IllegalStateException if all have 16 together");
        int[] four = p(0, 1, 1, 1, 1);
        due("fifteen", () -> chart(four, four, four, p(0, 1, 1), p(0, 1)).addRhs(105), 2);
        dueThrow("fifteen, a wrong one", () -> chart(four, four, four, p(0, 1, 1), p(0, 1)).addRhs(106),
                ARGUMENT);
        dueNoSymbol("sixteen, the last has none", () -> chart(four, four, four, four, p(0)));
        dueNoSymbol("sixteen, the last has one", () -> chart(four, four, four, p(0, 1, 1, 1), p(0, 1)));
        dueNoSymbol("sixteen, the last has two", () -> chart(four, four, four, p(0, 1, 1), p(0, 1, 1)));
        dueNoSymbol("sixteen, the last has three", () -> chart(four, four, four, p(0, 1), p(0, 1, 1, 1)));
        dueNoSymbol("sixteen, the last has four", () -> chart(four, four, four, four));
        dueNoSymbol("sixteen in eight", () -> chart(p(0, 1, 1), p(0, 1, 1), p(0, 1, 1), p(0, 1, 1),
                p(0, 1, 1), p(0, 1, 1), p(0, 1, 1), p(0, 1, 1)));
    }

    private static void addRhsOfNoSymbol() {
        promise("3, else IllegalArgumentException if there is no such symbol");
        for (int count = 1; count <= 6; count++) {
            int v = count;
            int t = 7 - count;
            Maker maker = () -> addAll(new EarleyChart(v, t), p(0));
            due("the last variable", () -> maker.make().addRhs(v - 1), 1);
            due("the last token", () -> maker.make().addRhs(99 + t), 1);
            dueRefused("behind the last variable", maker, chart -> chart.addRhs(v), ARGUMENT);
            dueRefused("behind the last token", maker, chart -> chart.addRhs(100 + t), ARGUMENT);
            dueRefused("before the first variable", maker, chart -> chart.addRhs(-1), ARGUMENT);
            dueRefused("before the first token", maker, chart -> chart.addRhs(99), ARGUMENT);
        }
        for (int far : FAR) {
            dueRefused("" + far, () -> chart(p(0, 1, 1, 1)), chart -> chart.addRhs(far), ARGUMENT);
        }
    }

    // Promise 4

    private static void feed() {
        promise("4, one more token: how many items its set has");
        EarleyChart chart = chart(p(0, 100, 1, 1), p(1, 101), p(1));
        due("four items and two of them whole", () -> chart.feed(100), 5);
        dueItems(chart, 1, 100, 200, 300, 1001, 2001);
        due("the next", () -> chart.feed(101), 5);
        dueItems(chart, 2, 200, 300, 1002, 1101, 2002);
        due("the last that fits", () -> chart.feed(101), 2);
        dueItems(chart, 3, 300, 1102);
        due("none", () -> chart.feed(101), 0);
        dueItems(chart, 4);
        due("none from none", () -> chart.feed(100), 0);
        due("fed", () -> chart.fed(), 5);
        due("just one", () -> chart(p(0, 100)).feed(100), 1);
        due("just none", () -> chart(p(0, 100)).feed(101), 0);
    }

    private static void feedEmptiesTheWitness() {
        promise("4, the witness is empty then");
        Maker told = () -> extracted(chart(p(0, 100, 0), p(0)));
        EarleyChart chart = told.make();
        due("before", () -> chart.witCount(), 1);
        chart.feed(100);
        due("witCount", () -> chart.witCount(), 0);
        dueThrow("wit(0)", () -> chart.wit(0), INDEX);
        due("extract", () -> chart.extract(), 2);
        chart.feed(105);
        due("witCount of a dead one", () -> chart.witCount(), 0);
        dueRefused("a refused one leaves it", told, c -> c.feed(106), ARGUMENT);
        EarleyChart refused = told.make();
        outcome(() -> refused.feed(106));
        due("witCount after a refused one", () -> refused.witCount(), 1);
        EarleyChart full = extracted(feedTimes(told.make(), 100, 8));
        outcome(() -> full.feed(100));
        due("witCount after a ninth", () -> full.witCount(), 9);
    }

    /** For a state in which nothing can be fed: a right token is refused, and so is a wrong one. */
    private static void dueNoToken(String what, Maker maker) {
        dueRefused(what + ", the first token", maker, chart -> chart.feed(100), STATE);
        dueRefused(what + ", the last token", maker, chart -> chart.feed(105), STATE);
        for (int wrong : WRONG_TOKENS) {
            dueRefused(what + ", " + wrong, maker, chart -> chart.feed(wrong), STATE);
        }
    }

    private static void feedWithoutProduction() {
        promise("4, throws IllegalStateException if there is no production");
        dueNoToken("a new object", () -> new EarleyChart(6, 6));
        dueNoToken("an erased one", () -> {
            EarleyChart chart = feedAll(chart(p(0, 100)), 100);
            chart.erase();
            return chart;
        });
        due("with an empty one", () -> chart(p(0)).feed(100), 0);
        due("with one", () -> chart(p(0, 100)).feed(100), 1);
    }

    private static void feedAfterEight() {
        promise("4, throws IllegalStateException if 8 tokens were fed");
        Maker maker = () -> chart(p(0, 100, 0), p(0));
        due("after seven", () -> feedTimes(maker.make(), 100, 7).feed(100), 11);
        dueNoToken("after eight", () -> feedTimes(maker.make(), 100, 8));
        dueNoToken("after eight, with a witness", () -> extracted(feedTimes(maker.make(), 100, 8)));
        dueNoToken("after eight dead ones", () -> feedTimes(maker.make(), 105, 8));
        due("after eight, cleared", () -> {
            EarleyChart chart = feedTimes(maker.make(), 100, 8);
            chart.clear();
            return chart.feed(100);
        }, 4);
    }

    private static void feedOfNoToken() {
        promise("4, else IllegalArgumentException if there is no such token");
        for (int count = 1; count <= 6; count++) {
            int t = count;
            Maker maker = () -> addAll(new EarleyChart(7 - t, t), p(0));
            due("the last of " + t, () -> maker.make().feed(99 + t), 0);
            dueRefused("behind the last of " + t, maker, chart -> chart.feed(100 + t), ARGUMENT);
            dueRefused("before the first of " + t, maker, chart -> chart.feed(99), ARGUMENT);
        }
        Maker seven = () -> feedTimes(chart(p(0, 100, 0), p(0)), 100, 7);
        for (int wrong : WRONG_TOKENS) {
            dueRefused("after seven, " + wrong, seven, chart -> chart.feed(wrong), ARGUMENT);
        }
        for (int far : FAR) {
            dueRefused("after seven, " + far, seven, chart -> chart.feed(far), ARGUMENT);
        }
    }

    // Promises 5 and 6

    private static void alive() {
        promise("5, whether the last set has an item");
        dueFalse("no productions", new EarleyChart(6, 6).alive());
        dueTrue("set 0", chart(p(0, 1)).alive());
        EarleyChart chart = feedAll(chart(p(0, 100)), 100);
        dueTrue("just one item", chart.alive());
        chart.feed(100);
        dueFalse("none, after a set with one", chart.alive());
        chart.feed(100);
        dueFalse("none, after a set with none", chart.alive());
        chart.clear();
        dueTrue("set 0 again", chart.alive());
        chart.erase();
        dueFalse("no productions again", chart.alive());
        EarleyChart full = feedTimes(chart(p(0, 100, 0)), 100, 8);
        dueTrue("set 8", full.alive());
        dueFalse("an empty set 8", feedAll(feedTimes(chart(p(0, 100, 0)), 100, 7), 101).alive());
    }

    private static void accepts() {
        promise("6, whether the input is accepted");
        dueFalse("no productions", new EarleyChart(6, 6).accepts());
        EarleyChart chart = chart(p(0, 100, 100, 100, 100));
        for (int fed = 0; fed <= 5; fed++) {
            report(fed + " fed", String.valueOf(chart.accepts()), String.valueOf(fed == 4));
            chart.feed(100);
        }
        chart.clear();
        dueFalse("after clear", chart.accepts());
        dueTrue("four again", feedTimes(chart, 100, 4).accepts());
        chart.erase();
        dueFalse("after erase", chart.accepts());
        Maker eight = () -> chart(p(0, 1, 1), p(1, 100, 100, 100, 100));
        dueFalse("seven of eight", feedTimes(eight.make(), 100, 7).accepts());
        dueTrue("eight of eight", feedTimes(eight.make(), 100, 8).accepts());
    }

    // Promises 7 to 9

    private static void extract() {
        promise("7, makes the witness: how many productions it has");
        dueWitness(chart(p(0)), 0);
        dueWitness(chart(p(5, 4), p(4)), 0, 1);
        EarleyChart chart = feedTimes(chart(p(0, 100, 0), p(0)), 100, 8);
        dueWitness(chart, 0, 0, 0, 0, 0, 0, 0, 0, 1);
        dueWitness(chart, 0, 0, 0, 0, 0, 0, 0, 0, 1);
        chart.clear();
        dueWitness(chart, 1);
        dueWitness(feedAll(chart, 100), 0, 1);
    }

    private static void dueNoWitness(String what, Maker maker) {
        dueRefused(what, maker, chart -> chart.extract(), ELEMENT);
        due(what + ", witCount", () -> maker.make().witCount(), 0);
        dueThrow(what + ", wit(0)", () -> maker.make().wit(0), INDEX);
        EarleyChart after = maker.make();
        outcome(() -> after.extract());
        due(what + ", witCount then", () -> after.witCount(), 0);
        dueThrow(what + ", wit(0) then", () -> after.wit(0), INDEX);
    }

    private static void extractOfWhatIsNotAccepted() {
        promise("7, throws NoSuchElementException if the input is not accepted (the witness is empty, "
                + "then, anyway)");
        dueNoWitness("no productions", () -> new EarleyChart(6, 6));
        dueNoWitness("nothing fed", () -> ambiguous());
        dueNoWitness("alive", () -> feedAll(ambiguous(), 101, 100));
        dueNoWitness("dead", () -> feedAll(ambiguous(), 101, 101));
        Maker told = () -> extracted(feedAll(ambiguous(), 101, 100, 101));
        due("accepted", () -> told.make().witCount(), 3);
        dueNoWitness("no more, by a token", () -> feedAll(told.make(), 100));
        dueNoWitness("no more, by clear", () -> {
            EarleyChart chart = told.make();
            chart.clear();
            return chart;
        });
        dueNoWitness("no more, by erase", () -> {
            EarleyChart chart = told.make();
            chart.erase();
            return chart;
        });
        dueNoWitness("no more, by a symbol", () -> {
            EarleyChart chart = extracted(chart(p(0)));
            chart.addRhs(100);
            return chart;
        });
    }

    private static void witCount() {
        promise("8, how many productions the witness has");
        due("a new object", () -> new EarleyChart(6, 6).witCount(), 0);
        due("accepted, but not asked for", () -> feedAll(ambiguous(), 101).witCount(), 0);
        due("one", () -> extracted(feedAll(ambiguous(), 101)).witCount(), 1);
        EarleyChart chart = extracted(feedAll(ambiguous(), 101, 100, 101, 100, 101));
        due("five", () -> chart.witCount(), 5);
        due("five still", () -> chart.witCount(), 5);
        chart.clear();
        feedAll(chart, 101);
        due("not that of before", () -> chart.witCount(), 0);
        due("a shorter one", () -> extracted(chart).witCount(), 1);
    }

    private static void wit() {
        promise("9, throws IndexOutOfBoundsException if there is none");
        for (int times = 0; times <= 8; times++) {
            int tokens = times;
            Maker silent = () -> feedTimes(chart(p(0, 100, 0), p(0)), 100, tokens);
            dueRefused("before extract", silent, chart -> chart.wit(0), INDEX);
            Maker told = () -> extracted(silent.make());
            due("the last", () -> told.make().wit(tokens), 1);
            due("the first", () -> told.make().wit(0), tokens == 0 ? 1 : 0);
            dueRefused("behind the last", told, chart -> chart.wit(tokens + 1), INDEX);
            dueRefused("before the first", told, chart -> chart.wit(-1), INDEX);
        }
        Maker told = () -> extracted(feedAll(ambiguous(), 101, 100, 101));
        for (int far : FAR) {
            dueRefused("wit(" + far + ")", told, chart -> chart.wit(far), INDEX);
        }
        for (int limit : new int[] {3, 7999, 8000, 8001}) {
            dueRefused("wit(" + limit + ")", told, chart -> chart.wit(limit), INDEX);
        }
        EarleyChart shorter = extracted(feedAll(ambiguous(), 101, 100, 101));
        shorter.clear();
        extracted(feedAll(shorter, 101));
        due("the last of a shorter one", () -> shorter.wit(0), 1);
        dueThrow("what a longer one had", () -> shorter.wit(1), INDEX);
    }

    // Promises 10 and 11

    private static void clear() {
        promise("10, nothing is fed any more, and the witness is empty: how many tokens there were");
        for (int times = 0; times <= 8; times++) {
            EarleyChart chart = extracted(feedTimes(chart(p(0, 100, 0), p(0)), 100, times));
            due("clear of " + times, () -> chart.clear(), times);
            due("fed", () -> chart.fed(), 0);
            due("witCount", () -> chart.witCount(), 0);
            dueThrow("wit(0)", () -> chart.wit(0), INDEX);
            dueThrow("items(1)", () -> chart.items(1), INDEX);
            dueThrow("steps(100, 0, 1)", () -> chart.steps(100, 0, 1), INDEX);
            due("clear again", () -> chart.clear(), 0);
        }
        due("clear without productions", () -> new EarleyChart(6, 6).clear(), 0);
        due("clear of a dead one", () -> feedAll(ambiguous(), 100, 100).clear(), 2);
    }

    private static void dueKept(String what, Maker grammar, int... tokens) {
        dueSame(what, () -> {
            EarleyChart chart = feedAll(grammar.make(), tokens);
            outcome(() -> chart.extract());
            chart.clear();
            return chart;
        }, grammar);
    }

    private static void clearKeepsTheGrammar() {
        promise("10, the grammar stays");
        dueKept("a small one", () -> ambiguous(), 101, 100, 101);
        dueKept("nothing fed", () -> chart(p(0)));
        dueKept("a dead input", () -> ambiguous(), 100);
        dueKept("eight tokens", () -> ambiguous(), 101, 100, 101, 100, 101, 100, 101, 101);
        dueKept("eight productions", empties(8), 100);
        dueKept("four symbols", () -> chart(p(0), p(0, 100, 101, 100, 101)), 100, 101, 100, 101);
        dueKept("sixteen symbols", () -> chart(p(0, 100, 0, 101, 1), p(0, 1, 2, 1, 2), p(1, 101, 2),
                p(2, 100, 1, 100), p(1), p(2, 1, 1, 1)), 100, 101);
        dueKept("three variables, two tokens", () -> addAll(new EarleyChart(3, 2), p(2, 100)), 100);
        due("the next number", () -> {
            EarleyChart chart = feedAll(ambiguous(), 101);
            chart.clear();
            return chart.addProd(0);
        }, 2);
    }

    private static void erase() {
        promise("11, as clear, and the grammar is gone, too: how many productions it had");
        for (int count = 0; count <= 8; count++) {
            EarleyChart chart = empties(count).make();
            due("erase of " + count, () -> chart.erase(), count);
            due("items(0)", () -> chart.items(0), 0);
            due("erase again", () -> chart.erase(), 0);
            due("the first production", () -> chart.addProd(5), 0);
            due("the second production", () -> chart.addProd(5), 1);
        }
        EarleyChart fed = extracted(feedAll(ambiguous(), 101, 100, 101));
        due("erase, not the tokens", () -> fed.erase(), 2);
        due("fed", () -> fed.fed(), 0);
        due("witCount", () -> fed.witCount(), 0);
        dueThrow("wit(0)", () -> fed.wit(0), INDEX);
        dueThrow("items(1)", () -> fed.items(1), INDEX);
        due("clear", () -> fed.clear(), 0);
    }

    private static void dueGone(String what, Maker maker, Maker fresh) {
        dueSame(what, () -> {
            EarleyChart chart = maker.make();
            chart.erase();
            return chart;
        }, fresh);
        dueSame(what + ", with another grammar,", () -> {
            EarleyChart chart = maker.make();
            chart.erase();
            return addAll(chart, p(0, 1, 100), p(1, 0, 1), p(0));
        }, () -> addAll(fresh.make(), p(0, 1, 100), p(1, 0, 1), p(0)));
    }

    private static void eraseLeavesNothing() {
        promise("11, the grammar is gone, too");
        Maker fresh = () -> new EarleyChart(6, 6);
        dueGone("nothing there", fresh, fresh);
        dueGone("eight productions", empties(8), fresh);
        dueGone("a witness", () -> extracted(empties(8).make()), fresh);
        dueGone("tokens", () -> extracted(feedAll(ambiguous(), 101, 100, 101)), fresh);
        dueGone("eight tokens", () -> feedTimes(chart(p(0, 100, 0), p(0), p(1)), 100, 8), fresh);
        dueGone("sixteen symbols", () -> chart(p(0, 1, 1, 1, 1), p(1, 100, 100, 100, 100), p(1),
                p(2, 1, 0, 1, 0), p(3, 2, 2, 2, 2)), fresh);
        dueGone("two variables, three tokens", () -> addAll(new EarleyChart(2, 3), p(1, 102), p(0)),
                () -> new EarleyChart(2, 3));
    }

    // Promises 12 and 13

    private static void items() {
        promise("12, throws IndexOutOfBoundsException if there is no such set");
        dueRefused("set 1 of a new object", () -> new EarleyChart(6, 6), chart -> chart.items(1), INDEX);
        for (int times = 0; times <= 8; times++) {
            int tokens = times;
            Maker maker = () -> feedTimes(chart(p(0, 100, 0), p(0)), 100, tokens);
            due("set 0 of " + times, () -> maker.make().items(0), 2);
            due("the last set of " + times, () -> maker.make().items(tokens), tokens == 0 ? 2 : 3 + tokens);
            dueRefused("behind the last of " + times, maker, chart -> chart.items(tokens + 1), INDEX);
            dueRefused("before the first of " + times, maker, chart -> chart.items(-1), INDEX);
        }
        due("an empty set", () -> feedAll(chart(p(0, 100)), 105).items(1), 0);
        for (int far : FAR) {
            dueRefused("set " + far, () -> ambiguous(), chart -> chart.items(far), INDEX);
        }
        EarleyChart shorter = feedTimes(chart(p(0, 100, 0), p(0)), 100, 8);
        shorter.clear();
        shorter.feed(100);
        due("the last of a shorter input", () -> shorter.items(1), 4);
        dueThrow("what a longer one had", () -> shorter.items(2), INDEX);
    }

    private static void item() {
        promise("13, throws IndexOutOfBoundsException if there is none");
        for (int times = 0; times <= 8; times++) {
            int tokens = times;
            Maker maker = () -> feedTimes(chart(p(0, 100, 0), p(0)), 100, tokens);
            int last = tokens == 0 ? 1 : 2 + tokens;
            due("the first of the last set", () -> maker.make().item(tokens, 0), tokens);
            due("the last of the last set", () -> maker.make().item(tokens, last), 1000 + tokens);
            due("the last of set 0", () -> maker.make().item(0, 1), 1000);
            dueRefused("behind the last", maker, chart -> chart.item(tokens, last + 1), INDEX);
            dueRefused("behind the last of set 0", maker, chart -> chart.item(0, 2), INDEX);
            dueRefused("before the first", maker, chart -> chart.item(tokens, -1), INDEX);
            dueRefused("behind the last set", maker, chart -> chart.item(tokens + 1, 0), INDEX);
            dueRefused("before the first set", maker, chart -> chart.item(-1, 0), INDEX);
        }
        Maker three = () -> feedAll(ambiguous(), 101, 100, 101);
        for (int far : FAR) {
            dueRefused("item " + far, three, chart -> chart.item(3, far), INDEX);
            dueRefused("set " + far, three, chart -> chart.item(far, 0), INDEX);
            dueRefused("item and set " + far, three, chart -> chart.item(far, far), INDEX);
        }
        dueRefused("of an empty set", () -> feedAll(ambiguous(), 100), chart -> chart.item(1, 0), INDEX);
        dueRefused("without productions", () -> new EarleyChart(6, 6), chart -> chart.item(0, 0), INDEX);
    }

    private static void itemOrder() {
        promise("13, by rising productions, then dots, then origins: 1000 * production + 100 * dot + origin");
        EarleyChart chart = feedTimes(chart(p(0, 0, 0), p(0, 100)), 100, 3);
        dueItems(chart, 1, 1, 100, 1001, 1100);
        dueItems(chart, 2, 2, 100, 101, 200, 1002, 1101);
        dueItems(chart, 3, 3, 100, 101, 102, 200, 201, 1003, 1102);
        // The largest production, dot and origin that there can be.
        EarleyChart far = feedTimes(chart(p(0, 100, 0), p(1), p(1), p(1), p(1), p(1), p(1),
                p(0, 100, 100, 100, 100)), 100, 8);
        dueItems(far, 8, 8, 107, 200, 201, 202, 203, 7008, 7107, 7206, 7305, 7404);
    }

    private static void itemOfTheFullestSet() {
        promise("13, item i (from 0) of a set as full as it can be");
        // Six items with dot 0, one behind the token, and nine origins for each of 15 other dots.
        EarleyChart chart = chart(p(0, 0, 0, 0, 0), p(0, 0, 0, 0, 0), p(0, 0, 0, 0, 0), p(0, 0, 0, 0),
                p(0, 100), p(0));
        feedTimes(chart, 100, 7);
        due("feed", () -> chart.feed(100), 142);
        due("items", () -> chart.items(8), 142);
        due("the first", () -> chart.item(8, 0), 8);
        due("the second", () -> chart.item(8, 1), 100);
        due("of origin 8", () -> chart.item(8, 9), 108);
        due("the next dot", () -> chart.item(8, 10), 200);
        due("the last of production 0", () -> chart.item(8, 36), 408);
        due("the first of production 1", () -> chart.item(8, 37), 1008);
        due("behind the token", () -> chart.item(8, 140), 4107);
        due("the last", () -> chart.item(8, 141), 5008);
        dueThrow("behind the last", () -> chart.item(8, 142), INDEX);
    }

    // Promise 14

    private static void steps() {
        promise("14, the steps of a symbol over the stretch from i to j");
        for (int times = 0; times <= 8; times++) {
            int fed = times;
            Maker maker = () -> feedTimes(chart(p(0, 100, 0), p(0)), 100, fed);
            due("all of " + fed, () -> maker.make().steps(0, 0, fed), fed + 1);
            due("nothing at the end of " + fed, () -> maker.make().steps(0, fed, fed), 1);
            due("nothing at the beginning of " + fed, () -> maker.make().steps(0, 0, 0), 1);
            due("a variable without productions", () -> maker.make().steps(5, 0, fed), -1);
            due("a token", () -> maker.make().steps(100, 0, fed), fed == 1 ? 0 : -1);
        }
    }

    private static void stepsOfNoSymbol() {
        promise("14, throws IllegalArgumentException if there is no such symbol");
        int[][] stretches = {{0, 0}, {0, 2}, {2, 2}, {0, 3}, {3, 3}, {-1, 0}, {1, 0},
            {Integer.MIN_VALUE, Integer.MAX_VALUE}, {Integer.MAX_VALUE, Integer.MIN_VALUE}};
        for (int count = 1; count <= 6; count++) {
            int v = count;
            int t = 7 - count;
            Maker maker = () -> feedAll(addAll(new EarleyChart(v, t), p(0, 100, 0), p(0)), 100, 100);
            for (int inside : new int[] {0, v - 1, 100, 99 + t}) {
                due("inside", () -> maker.make().steps(inside, 0, 2), inside == 0 ? 3 : -1);
            }
            for (int outside : new int[] {-1, v, 99, 100 + t}) {
                for (int[] at : stretches) {
                    dueThrow("steps(" + outside + ", " + at[0] + ", " + at[1] + ")",
                            () -> maker.make().steps(outside, at[0], at[1]), ARGUMENT);
                }
                dueRefused("steps(" + outside + ")", maker, chart -> chart.steps(outside, 0, 2), ARGUMENT);
            }
        }
        Maker maker = () -> feedAll(ambiguous(), 101, 100);
        for (int far : FAR) {
            dueRefused("steps(" + far + ")", maker, chart -> chart.steps(far, 0, 2), ARGUMENT);
            dueRefused("steps(" + far + ") and no stretch", maker, chart -> chart.steps(far, far, far), ARGUMENT);
        }
    }

    private static void dueNoStretch(Maker maker, int i, int j) {
        for (int symbol : new int[] {0, 5, 100, 105}) {
            dueRefused("steps(" + symbol + ", " + i + ", " + j + ")", maker,
                    chart -> chart.steps(symbol, i, j), INDEX);
        }
    }

    private static void stepsOfNoStretch() {
        promise("14, else IndexOutOfBoundsException if it is no stretch of the input");
        for (int times : new int[] {0, 1, 2, 7, 8}) {
            int fed = times;
            Maker maker = () -> feedTimes(chart(p(0, 100, 0), p(0)), 100, fed);
            int[][] outside = {{-1, -1}, {-1, 0}, {-1, fed}, {0, -1}, {1, 0}, {fed + 1, fed},
                {0, fed + 1}, {fed, fed + 1}, {fed + 1, fed + 1}, {0, 9}, {9, 9}, {fed, fed - 1}};
            for (int[] at : outside) {
                dueNoStretch(maker, at[0], at[1]);
            }
        }
        Maker two = () -> feedAll(ambiguous(), 101, 100);
        for (int far : FAR) {
            dueNoStretch(two, far, 0);
            dueNoStretch(two, 0, far);
            dueNoStretch(two, far, far);
        }
        dueNoStretch(two, Integer.MIN_VALUE, Integer.MAX_VALUE);
        dueNoStretch(two, Integer.MAX_VALUE, Integer.MIN_VALUE);
        dueNoStretch(() -> new EarleyChart(6, 6), 0, 1);
        due("the empty stretch of no grammar", () -> new EarleyChart(6, 6).steps(0, 0, 0), -1);
    }

    // Promises 15 and 16

    private static void nullable() {
        promise("15, whether a variable derives the empty row of tokens");
        dueFalse("without productions", new EarleyChart(6, 6).nullable(0));
        dueTrue("an empty production", chart(p(5)).nullable(5));
        dueFalse("a token", chart(p(5, 100)).nullable(5));
        dueTrue("four empty ones", chart(p(0, 1, 1, 1, 1), p(1)).nullable(0));
        dueFalse("three and a token", chart(p(0, 1, 1, 1, 100), p(1)).nullable(0));
        dueTrue("not the start", chart(p(0, 100), p(1)).nullable(1));
        dueFalse("only itself", chart(p(0, 0)).nullable(0));
        EarleyChart fed = feedTimes(chart(p(0, 1, 1), p(1)), 105, 8);
        dueTrue("whatever was fed", fed.nullable(0));
        promise("15, throws IllegalArgumentException if there is no such variable");
        for (int count = 1; count <= 6; count++) {
            int v = count;
            Maker maker = () -> addAll(new EarleyChart(v, 6), p(v - 1));
            due("the last of " + v, () -> maker.make().nullable(v - 1) ? 1 : 0, 1);
            dueRefused("behind the last of " + v, maker, chart -> chart.nullable(v) ? 1 : 0, ARGUMENT);
            dueRefused("before the first of " + v, maker, chart -> chart.nullable(-1) ? 1 : 0, ARGUMENT);
        }
        for (int wrong : WRONG_VARIABLES) {
            dueRefused("" + wrong, () -> ambiguous(), chart -> chart.nullable(wrong) ? 1 : 0, ARGUMENT);
        }
        for (int far : FAR) {
            dueRefused("" + far, () -> ambiguous(), chart -> chart.nullable(far) ? 1 : 0, ARGUMENT);
        }
    }

    private static void fed() {
        promise("16, how many tokens were fed");
        due("a new object", () -> new EarleyChart(6, 6).fed(), 0);
        for (int times = 0; times <= 8; times++) {
            int tokens = times;
            due("" + times, () -> feedTimes(ambiguous(), 101, tokens).fed(), times);
        }
        EarleyChart full = feedTimes(ambiguous(), 101, 8);
        dueThrow("the ninth", () -> full.feed(101), STATE);
        due("eight still", () -> full.fed(), 8);
        EarleyChart seven = feedTimes(ambiguous(), 101, 7);
        dueThrow("a wrong one", () -> seven.feed(106), ARGUMENT);
        due("seven still", () -> seven.fed(), 7);
        full.clear();
        due("after clear", () -> full.fed(), 0);
        seven.erase();
        due("after erase", () -> seven.fed(), 0);
    }

    // Every call, with numbers near and far, in states of all kinds

    private static void aCallThatThrowsChangesNothing() {
        promise("Terms, a call that throws changes nothing");
        Maker[] states = {
            () -> new EarleyChart(6, 6),
            () -> chart(p(0)),
            () -> extracted(chart(p(0), p(1, 100, 101))),
            () -> chart(p(0, 100, 1, 0, 1), p(1), p(1, 100, 101, 0, 1)),
            empties(8),
            () -> extracted(chart(p(0, 1, 1, 1, 1), p(1), p(2, 100, 100, 1, 1), p(3, 2, 2, 2, 2),
                    p(4, 3, 3, 3, 3))),
            () -> feedAll(ambiguous(), 101, 100),
            () -> extracted(feedAll(ambiguous(), 101, 100, 101)),
            () -> feedAll(ambiguous(), 100, 100),
            () -> extracted(feedTimes(chart(p(0, 100, 0), p(0)), 100, 8)),
        };
        for (Maker state : states) {
            int refused = 0;
            for (int number : FAR) {
                refused += refuseAll(state, number);
            }
            for (int number : new int[] {-1, 0, 1, 2, 3, 4, 5, 6, 7, 8, 9, 99, 100, 101, 105, 106, 8000}) {
                refused += refuseAll(state, number);
            }
            dueTrue("many calls throw", refused > 100);
        }
    }

    /** How many calls threw; after each of them the chart is as before. */
    private static int refuseAll(Maker state, int number) {
        On[] calls = {
            chart -> chart.addProd(number), chart -> chart.addRhs(number), chart -> chart.feed(number),
            chart -> chart.extract(), chart -> chart.wit(number), chart -> chart.items(number),
            chart -> chart.item(number, 0), chart -> chart.item(0, number),
            chart -> chart.steps(number, 0, 0), chart -> chart.steps(0, number, 0),
            chart -> chart.steps(100, 0, number), chart -> chart.nullable(number) ? 1 : 0,
        };
        int refused = 0;
        for (int i = 0; i < calls.length; i++) {
            EarleyChart chart = state.make();
            On call = calls[i];
            String answer = outcome(() -> call.answer(chart));
            if (answer.endsWith("Exception")) {
                refused++;
                dueRefused("call " + i + " with " + number, state, call, answer);
            }
        }
        return refused;
    }
}
