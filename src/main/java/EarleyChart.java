import java.util.Arrays;
import java.util.NoSuchElementException;

/**
 * Recognises words of any grammar, token by token, by sets of items as Earley's method has them,
 * also where productions are empty, go round, or are ambiguous; and gives one derivation, the
 * shortest, told step by step.
 */
public final class EarleyChart {
    private static final int MOST_VARIABLES = 6;
    private static final int MOST_TOKENS = 6;
    private static final int USUAL_COUNT = 4;
    private static final int FIRST_TOKEN = 100;
    private static final int MOST_PRODUCTIONS = 8;
    private static final int LONGEST_RIGHT_SIDE = 4;
    private static final int MOST_RIGHT_SYMBOLS = 16;
    private static final int LONGEST_INPUT = 8;
    private static final int LONGEST_WITNESS = 8000;

    /** The places before, between and behind the tokens of the longest input. */
    private static final int PLACES = LONGEST_INPUT + 1;
    /** Each production has one slot more than its right side has symbols. */
    private static final int MOST_SLOTS = MOST_PRODUCTIONS + MOST_RIGHT_SYMBOLS;
    /** On the way down a shortest derivation no variable comes twice over the same stretch. */
    private static final int DEEPEST_DERIVATION = MOST_VARIABLES * PLACES;
    /** Far above the 217 rounds in which a set, growing by one item each, would be full. */
    private static final int MOST_ROUNDS = 1000;
    /** Far above the six turns that each of the witness's 8000 productions can take. */
    private static final int MOST_TURNS = 1000000;

    /** Stands behind a dot that is at the end of its right side. */
    private static final int NO_SYMBOL = -1;
    /** The steps where there is no derivation. */
    private static final int NO_STEPS = -1;
    private static final int NO_PRODUCTION = -1;

    private final int variableCount;
    private final int tokenCount;
    private final Grammar grammar;
    private final Input input;
    private final ItemSets sets;
    private final StepTable table;
    private final Witness witness;

    public EarleyChart(int variables, int tokens) {
        variableCount = variables >= 1 && variables <= MOST_VARIABLES ? variables : USUAL_COUNT;
        tokenCount = tokens >= 1 && tokens <= MOST_TOKENS ? tokens : USUAL_COUNT;
        Grammar newGrammar = new Grammar();
        Input newInput = new Input();
        StepTable newTable = new StepTable(newGrammar, newInput);
        grammar = newGrammar;
        input = newInput;
        sets = new ItemSets(newGrammar);
        table = newTable;
        witness = new Witness(newGrammar, newTable);
        grammarChanged();
    }

    public int addProd(int lhs) throws IllegalStateException, IllegalArgumentException {
        if (input.length > 0 || grammar.productions >= MOST_PRODUCTIONS) {
            throw new IllegalStateException("no production can be added now");
        }
        if (!hasVariable(lhs)) {
            throw new IllegalArgumentException("no such variable");
        }
        grammar.openProduction(lhs);
        grammarChanged();
        return grammar.productions - 1;
    }

    public int addRhs(int symbol) throws IllegalStateException, IllegalArgumentException {
        if (input.length > 0 || !grammar.hasRoomForSymbol()) {
            throw new IllegalStateException("no symbol can be added now");
        }
        if (!hasVariable(symbol) && !hasToken(symbol)) {
            throw new IllegalArgumentException("no such symbol");
        }
        grammar.appendSymbol(symbol);
        grammarChanged();
        return grammar.lastLength();
    }

    public int feed(int token) throws IllegalStateException, IllegalArgumentException {
        if (grammar.productions == 0 || input.length >= LONGEST_INPUT) {
            throw new IllegalStateException("no token can be fed now");
        }
        if (!hasToken(token)) {
            throw new IllegalArgumentException("no such token");
        }
        witness.forget();
        input.append(token);
        sets.makeNext(input.length, token);
        table.fillUpTo(input.length);
        return sets.size(input.length);
    }

    public boolean alive() {
        return sets.size(input.length) > 0;
    }

    public boolean accepts() {
        return sets.holdWholeStart(input.length);
    }

    public int extract() throws NoSuchElementException {
        if (!sets.holdWholeStart(input.length)) {
            throw new NoSuchElementException("the input is not accepted");
        }
        witness.tell(grammar.start(), input.length);
        return witness.count;
    }

    public int witCount() {
        return witness.count;
    }

    public int wit(int i) throws IndexOutOfBoundsException {
        if (i < 0 || i >= witness.count) {
            throw new IndexOutOfBoundsException("no such production of the witness");
        }
        return witness.row[i];
    }

    public int clear() {
        int before = input.length;
        input.length = 0;
        witness.forget();
        return before;
    }

    public int erase() {
        int before = grammar.productions;
        input.length = 0;
        grammar.forget();
        grammarChanged();
        return before;
    }

    public int items(int k) throws IndexOutOfBoundsException {
        if (!hasSet(k)) {
            throw new IndexOutOfBoundsException("no such set");
        }
        return sets.size(k);
    }

    public int item(int k, int i) throws IndexOutOfBoundsException {
        if (!hasSet(k) || i < 0 || i >= sets.size(k)) {
            throw new IndexOutOfBoundsException("no such item");
        }
        return sets.codeOf(k, i);
    }

    public int steps(int symbol, int i, int j)
            throws IllegalArgumentException, IndexOutOfBoundsException {
        if (!hasVariable(symbol) && !hasToken(symbol)) {
            throw new IllegalArgumentException("no such symbol");
        }
        if (i < 0 || i > j || j > input.length) {
            throw new IndexOutOfBoundsException("no stretch of the input");
        }
        return table.ofSymbol(symbol, i, j);
    }

    public boolean nullable(int variable) throws IllegalArgumentException {
        if (!hasVariable(variable)) {
            throw new IllegalArgumentException("no such variable");
        }
        return table.ofSymbol(variable, 0, 0) != NO_STEPS;
    }

    public int fed() {
        return input.length;
    }

    private boolean hasVariable(int symbol) {
        return symbol >= 0 && symbol < variableCount;
    }

    private boolean hasToken(int symbol) {
        return symbol >= FIRST_TOKEN && symbol < FIRST_TOKEN + tokenCount;
    }

    private boolean hasSet(int k) {
        return k >= 0 && k <= input.length;
    }

    private void grammarChanged() {
        witness.forget();
        sets.makeFirst();
        table.fillStretch(0, 0);
    }

    private static boolean isVariable(int symbol) {
        return symbol >= 0 && symbol < MOST_VARIABLES;
    }

    /** The tokens that were fed. */
    private static final class Input {
        final int[] tokens = new int[LONGEST_INPUT];
        int length = 0;

        void append(int token) {
            if (length < LONGEST_INPUT) {
                tokens[length] = token;
                length++;
            }
        }

        boolean isJust(int token, int from, int to) {
            return to == from + 1 && from >= 0 && from < length && tokens[from] == token;
        }
    }

    /**
     * The productions. Each dot that a production can have is a slot; slots are numbered through
     * all productions, so that rising slots are rising productions and, in these, rising dots.
     */
    private static final class Grammar {
        final int[] leftSide = new int[MOST_PRODUCTIONS];
        final int[] firstSlot = new int[MOST_PRODUCTIONS];
        final int[] symbolBehind = new int[MOST_SLOTS];
        final int[] productionOf = new int[MOST_SLOTS];
        int productions = 0;
        int slots = 0;

        int start() {
            return leftSide[0];
        }

        int lastLength() {
            return productions == 0 ? 0 : slots - 1 - firstSlot[productions - 1];
        }

        boolean hasRoomForSymbol() {
            return productions > 0
                    && lastLength() < LONGEST_RIGHT_SIDE
                    && slots - productions < MOST_RIGHT_SYMBOLS;
        }

        void openProduction(int variable) {
            if (productions < MOST_PRODUCTIONS) {
                leftSide[productions] = variable;
                firstSlot[productions] = slots;
                productions++;
                openSlot();
            }
        }

        void appendSymbol(int symbol) {
            if (hasRoomForSymbol()) {
                symbolBehind[slots - 1] = symbol;
                openSlot();
            }
        }

        private void openSlot() {
            if (slots < MOST_SLOTS) {
                symbolBehind[slots] = NO_SYMBOL;
                productionOf[slots] = productions - 1;
                slots++;
            }
        }

        int leftSideAt(int slot) {
            return leftSide[productionOf[slot]];
        }

        int dotAt(int slot) {
            return slot - firstSlot[productionOf[slot]];
        }

        void forget() {
            productions = 0;
            slots = 0;
        }
    }

    /** The sets of items, one for each place of the input. */
    private static final class ItemSets {
        private final Grammar grammar;
        /** Bit o of origins[k][slot] tells that set k has the item of that slot and origin o. */
        private final int[][] origins = new int[PLACES][MOST_SLOTS];
        /** In the set that is being closed: the origins of each variable's whole items. */
        private final int[] wholeOrigins = new int[MOST_VARIABLES];

        ItemSets(Grammar grammar) {
            this.grammar = grammar;
        }

        void makeFirst() {
            Arrays.fill(origins[0], 0);
            if (grammar.productions > 0) {
                predict(0, grammar.start());
                close(0);
            }
        }

        /** Set k from set k - 1; k is from 1 on. */
        void makeNext(int k, int token) {
            Arrays.fill(origins[k], 0);
            for (int slot = 0; slot + 1 < grammar.slots; slot++) {
                if (grammar.symbolBehind[slot] == token) {
                    origins[k][slot + 1] = origins[k - 1][slot];
                }
            }
            close(k);
        }

        int size(int k) {
            int size = 0;
            for (int slot = 0; slot < grammar.slots; slot++) {
                size += Integer.bitCount(origins[k][slot]);
            }
            return size;
        }

        boolean holdWholeStart(int k) {
            for (int slot = 0; slot < grammar.slots; slot++) {
                if (grammar.symbolBehind[slot] == NO_SYMBOL
                        && grammar.leftSideAt(slot) == grammar.start()
                        && (origins[k][slot] & 1) != 0) {
                    return true;
                }
            }
            return false;
        }

        int codeOf(int k, int i) {
            int before = i;
            for (int slot = 0; slot < grammar.slots; slot++) {
                int here = Integer.bitCount(origins[k][slot]);
                if (before < here) {
                    return 1000 * grammar.productionOf[slot] + 100 * grammar.dotAt(slot)
                            + originAt(origins[k][slot], before);
                }
                before -= here;
            }
            return 0;
        }

        private static int originAt(int mask, int i) {
            int before = i;
            for (int origin = 0; origin < PLACES; origin++) {
                if ((mask >> origin & 1) != 0) {
                    if (before == 0) {
                        return origin;
                    }
                    before--;
                }
            }
            return 0;
        }

        private void close(int k) {
            boolean grew = true;
            for (int round = 0; grew && round < MOST_ROUNDS; round++) {
                int before = size(k);
                // Gathered anew each round and not on the way: only so is a round in which
                // nothing grew a sign that all whole items have been used everywhere.
                gatherWholeOrigins(k);
                grow(k);
                grew = size(k) > before;
            }
        }

        private void gatherWholeOrigins(int k) {
            Arrays.fill(wholeOrigins, 0);
            for (int slot = 0; slot < grammar.slots; slot++) {
                if (grammar.symbolBehind[slot] == NO_SYMBOL) {
                    wholeOrigins[grammar.leftSideAt(slot)] |= origins[k][slot];
                }
            }
        }

        private void grow(int k) {
            for (int slot = 0; slot + 1 < grammar.slots; slot++) {
                int symbol = grammar.symbolBehind[slot];
                if (isVariable(symbol)) {
                    if (origins[k][slot] != 0) {
                        predict(k, symbol);
                    }
                    origins[k][slot + 1] |= originsIn(wholeOrigins[symbol], slot);
                }
            }
        }

        private void predict(int k, int variable) {
            for (int production = 0; production < grammar.productions; production++) {
                if (grammar.leftSide[production] == variable) {
                    origins[k][grammar.firstSlot[production]] |= 1 << k;
                }
            }
        }

        /** All origins that a slot has in those sets whose bits are in the mask. */
        private int originsIn(int mask, int slot) {
            int found = 0;
            for (int j = 0; j < PLACES; j++) {
                if ((mask >> j & 1) != 0) {
                    found |= origins[j][slot];
                }
            }
            return found;
        }
    }

    /**
     * The fewest steps over each stretch, of each variable and of the row of symbols behind each
     * slot. All stretches that end at one place are filled in together, the shortest first.
     */
    private static final class StepTable {
        private final Grammar grammar;
        private final Input input;
        private final int[][] ofVariable = new int[MOST_VARIABLES][PLACES * PLACES];
        private final int[][] ofRowBehind = new int[MOST_SLOTS][PLACES * PLACES];

        StepTable(Grammar grammar, Input input) {
            this.grammar = grammar;
            this.input = input;
        }

        int ofSymbol(int symbol, int from, int to) {
            if (isVariable(symbol)) {
                return ofVariable[symbol][stretch(from, to)];
            }
            return input.isJust(symbol, from, to) ? 0 : NO_STEPS;
        }

        int ofRow(int slot, int from, int to) {
            return ofRowBehind[slot][stretch(from, to)];
        }

        /** Steps when the symbol behind the slot ends at middle and the others go on to the end. */
        int ofSplitRow(int slot, int from, int middle, int to) {
            int first = ofSymbol(grammar.symbolBehind[slot], from, middle);
            if (first == NO_STEPS || slot + 1 >= grammar.slots) {
                return NO_STEPS;
            }
            int others = ofRow(slot + 1, middle, to);
            return others == NO_STEPS ? NO_STEPS : first + others;
        }

        void fillUpTo(int to) {
            for (int from = to; from >= 0; from--) {
                fillStretch(from, to);
            }
        }

        void fillStretch(int from, int to) {
            for (int variable = 0; variable < MOST_VARIABLES; variable++) {
                ofVariable[variable][stretch(from, to)] = NO_STEPS;
            }
            // Symbols that derive nothing let a variable's steps hang on those of others, or on
            // its own, over the same stretch: so it goes in rounds until none gets fewer.
            boolean lowered = true;
            for (int round = 0; lowered && round < MOST_ROUNDS; round++) {
                lowered = lower(from, to);
            }
        }

        private static int stretch(int from, int to) {
            return from * PLACES + to;
        }

        /** Downwards, since a row's steps need those of the row behind the next slot. */
        private boolean lower(int from, int to) {
            boolean lowered = false;
            for (int slot = grammar.slots - 1; slot >= 0; slot--) {
                int least = leastOfRow(slot, from, to);
                ofRowBehind[slot][stretch(from, to)] = least;
                if (grammar.dotAt(slot) == 0 && least != NO_STEPS) {
                    int[] known = ofVariable[grammar.leftSideAt(slot)];
                    if (isFewer(least + 1, known[stretch(from, to)])) {
                        known[stretch(from, to)] = least + 1;
                        lowered = true;
                    }
                }
            }
            return lowered;
        }

        private int leastOfRow(int slot, int from, int to) {
            if (grammar.symbolBehind[slot] == NO_SYMBOL) {
                return from == to ? 0 : NO_STEPS;
            }
            int least = NO_STEPS;
            for (int middle = from; middle <= to; middle++) {
                int steps = ofSplitRow(slot, from, middle, to);
                if (steps != NO_STEPS && isFewer(steps, least)) {
                    least = steps;
                }
            }
            return least;
        }

        private static boolean isFewer(int steps, int known) {
            return known == NO_STEPS || steps < known;
        }
    }

    /**
     * The witness, and the stack on which it is told: the slots of the productions that are open,
     * each with the stretch that the row behind the slot still has to cover.
     */
    private static final class Witness {
        private final Grammar grammar;
        private final StepTable table;
        final int[] row = new int[LONGEST_WITNESS];
        int count = 0;
        private final int[] openSlots = new int[DEEPEST_DERIVATION];
        private final int[] froms = new int[DEEPEST_DERIVATION];
        private final int[] tos = new int[DEEPEST_DERIVATION];
        private int depth = 0;

        Witness(Grammar grammar, StepTable table) {
            this.grammar = grammar;
            this.table = table;
        }

        void forget() {
            count = 0;
        }

        void tell(int variable, int to) {
            count = 0;
            depth = 0;
            open(variable, 0, to);
            for (int turn = 0; depth > 0 && turn < MOST_TURNS; turn++) {
                goOn();
            }
        }

        private void open(int variable, int from, int to) {
            int production = lowestProduction(variable, from, to);
            if (production == NO_PRODUCTION || depth >= DEEPEST_DERIVATION) {
                return;
            }
            if (count >= LONGEST_WITNESS) {
                depth = 0;
                return;
            }
            row[count] = production;
            count++;
            openSlots[depth] = grammar.firstSlot[production];
            froms[depth] = from;
            tos[depth] = to;
            depth++;
        }

        /** Goes over one symbol of the production that was opened last, or closes it. */
        private void goOn() {
            int top = depth - 1;
            int slot = openSlots[top];
            int symbol = grammar.symbolBehind[slot];
            if (symbol == NO_SYMBOL) {
                depth--;
                return;
            }
            int from = froms[top];
            int middle = shortestEnd(slot, from, tos[top]);
            openSlots[top] = slot + 1;
            froms[top] = middle;
            if (isVariable(symbol)) {
                open(symbol, from, middle);
            }
        }

        private int lowestProduction(int variable, int from, int to) {
            int steps = table.ofSymbol(variable, from, to);
            for (int production = 0; production < grammar.productions; production++) {
                if (steps != NO_STEPS && grammar.leftSide[production] == variable
                        && table.ofRow(grammar.firstSlot[production], from, to) == steps - 1) {
                    return production;
                }
            }
            return NO_PRODUCTION;
        }

        private int shortestEnd(int slot, int from, int to) {
            int least = table.ofRow(slot, from, to);
            for (int middle = from; middle < to; middle++) {
                if (least != NO_STEPS && table.ofSplitRow(slot, from, middle, to) == least) {
                    return middle;
                }
            }
            return to;
        }
    }
}
