import java.util.Arrays;

/**
 * Reads a text that declares symbols, hypotheses, axioms and theorems with proofs in nested scopes,
 * and checks every proof step by step.
 *
 * <p>All rows are made when the object is made and used again by every read, so that no call makes
 * anything. Names and statements are few enough (60 and 40) for a set of them to be the bits of a
 * long.
 */
public final class ProofLedger {
    public static final int NONE = -1;
    public static final int UNENDED = -2;
    public static final int WORD = -3;
    public static final int NAME = -4;
    public static final int SCOPE = -5;
    public static final int KIND = -6;
    public static final int ROOM = -7;
    public static final int PROOF = -8;
    public static final int STACK = -9;
    public static final int MATCH = -10;
    public static final int APART = -11;

    // What a word answers that met no fault: every fault is below it.
    private static final int FINE = 0;

    private final Text text;
    private final Names names;
    private final Statements statements;
    private final Assertions assertions;
    private final Reader reader;
    private int placeOfFault;

    public ProofLedger() {
        text = new Text();
        names = new Names();
        statements = new Statements();
        assertions = new Assertions();
        reader = new Reader(names, statements, assertions);
        placeOfFault = NONE;
    }

    public int feed(long characters, int n) {
        return text.append(characters, n);
    }

    public int clear() {
        return text.empty();
    }

    public int read() {
        text.rewind();
        reader.begin();
        int fault = FINE;
        for (int i = 0; i < Text.MOST && fault == FINE && text.advance(); i++) {
            fault = text.marked ? reader.takeKeyword(text) : reader.takeName(text);
        }
        placeOfFault = fault == FINE ? NONE : text.words - 1;
        if (fault == FINE && (text.insideComment || reader.isInside())) {
            fault = UNENDED;
            placeOfFault = text.words;
        }
        return fault == FINE ? assertions.size : fault;
    }

    public int place() {
        return placeOfFault;
    }

    public int count(int what) {
        switch (what) {
            case 0:
                return names.constants;
            case 1:
                return Long.bitCount(names.variables);
            case 2:
                return statements.countKind(Statements.FLOATING);
            case 3:
                return statements.countKind(Statements.ESSENTIAL);
            case 4:
                return statements.countKind(Statements.AXIOM);
            case 5:
                return statements.countKind(Statements.THEOREM);
            case 6:
                return assertions.countIncomplete();
            default:
                return NONE;
        }
    }

    public long label(int k) {
        return assertions.has(k) ? statements.labels[assertions.statements[k]] : NONE;
    }

    public long symbol(int k, int i) {
        if (!assertions.has(k)) {
            return NONE;
        }
        int statement = assertions.statements[k];
        if (i < 0 || i >= statements.expressions.lengths[statement]) {
            return NONE;
        }
        return names.codes[statements.expressions.symbolAt(statement, i)];
    }

    public long hypothesis(int k, int i) {
        if (!assertions.has(k)) {
            return NONE;
        }
        int found = statements.findMandatory(assertions.statements[k], i);
        return found < 0 ? NONE : statements.labels[found];
    }

    public int pairs(int k) {
        return assertions.has(k) ? assertions.pairCounts[k] : NONE;
    }

    public boolean apart(int k, long v, long w) {
        if (!assertions.has(k)) {
            return false;
        }
        for (int i = 0; i < assertions.pairCounts[k]; i++) {
            long first = names.codes[assertions.firstOfPair(k, i)];
            long second = names.codes[assertions.secondOfPair(k, i)];
            if (first == v && second == w || first == w && second == v) {
                return true;
            }
        }
        return false;
    }

    public int steps(int k) {
        return assertions.has(k) ? assertions.stepCounts[k] : NONE;
    }

    public int depth(int k) {
        return assertions.has(k) ? assertions.heights[k] : NONE;
    }

    public int uses(int k, int j) {
        if (!assertions.has(k)) {
            return NONE;
        }
        return assertions.has(j) ? assertions.countUses(k, j) : 0;
    }

    public boolean proved(int k) {
        return assertions.has(k) && assertions.sound[k];
    }

    /** The characters that were fed, and the word at which reading stands. */
    private static final class Text {
        static final int MOST = 1600;
        static final int LONGEST_WORD = 8;
        static final int FIRST_CODE = 32;
        static final int LAST_CODE = 126;

        final byte[] characters;
        int length;
        // How many words were come to, those of comments too.
        int words;
        int start;
        int end;
        // The word's characters as digits to the base 128; it means nothing when the word is too long.
        long code;
        // Whether there is a $ in the word.
        boolean marked;
        boolean insideComment;

        Text() {
            characters = new byte[MOST];
        }

        int append(long bytes, int n) {
            if (n < 1 || n > 8 || length + n > MOST) {
                return NONE;
            }
            for (int i = 0; i < n; i++) {
                int character = (int) (bytes >>> 8 * i) & 255;
                if (character < FIRST_CODE || character > LAST_CODE) {
                    return NONE;
                }
            }
            for (int i = 0; i < n; i++) {
                characters[length + i] = (byte) (bytes >>> 8 * (n - 1 - i));
            }
            length += n;
            return length;
        }

        int empty() {
            int had = length;
            length = 0;
            return had;
        }

        void rewind() {
            words = 0;
            end = 0;
            insideComment = false;
        }

        /** Goes to the next word that is in no comment; false when there is none. */
        boolean advance() {
            for (int i = 0; i < MOST && scanWord(); i++) {
                int keyword = keyword();
                if (insideComment) {
                    insideComment = keyword != ')';
                } else if (keyword == '(') {
                    insideComment = true;
                } else {
                    return true;
                }
            }
            return false;
        }

        private boolean scanWord() {
            start = end;
            while (start < length && characters[start] == ' ') {
                start++;
            }
            end = start;
            code = 0;
            marked = false;
            while (end < length && characters[end] != ' ') {
                code = code * 128 + characters[end];
                marked = marked || characters[end] == '$';
                end++;
            }
            if (start == end) {
                return false;
            }
            words++;
            return true;
        }

        boolean isTooLong() {
            return end - start > LONGEST_WORD;
        }

        /** The character behind the $ of a word that is a $ and one character; 0 for other words. */
        int keyword() {
            return end - start == 2 && characters[start] == '$' ? characters[start + 1] : 0;
        }
    }

    /** All words that were declared since reading began. */
    private static final class Names {
        static final int MOST = 60;
        static final int CONSTANT = 0;
        static final int VARIABLE = 1;
        static final int LABEL = 2;

        final long[] codes;
        final int[] roles;
        // Of a label: its statement.
        final int[] statements;
        int size;
        int constants;
        // The names that are or were variables.
        long variables;

        Names() {
            codes = new long[MOST];
            roles = new int[MOST];
            statements = new int[MOST];
        }

        void begin() {
            size = 0;
            constants = 0;
            variables = 0;
        }

        boolean isFull() {
            return size >= MOST;
        }

        int find(long code) {
            for (int i = 0; i < size; i++) {
                if (codes[i] == code) {
                    return i;
                }
            }
            return NONE;
        }

        int add(long code, int role) {
            int name = size;
            codes[name] = code;
            roles[name] = role;
            size++;
            if (role == CONSTANT) {
                constants++;
            } else if (role == VARIABLE) {
                variables |= 1L << name;
            }
            return name;
        }
    }

    /** Rows of symbols, each told by the number of its name; the row behind the last is the one in the making. */
    private static final class Expressions {
        static final int LONGEST = 24;

        final int most;
        final int[] symbols;
        final int[] lengths;
        // The set of the variables that occur in a row.
        final long[] variables;
        int size;

        Expressions(int most) {
            this.most = most;
            symbols = new int[most * LONGEST];
            lengths = new int[most];
            variables = new long[most];
        }

        boolean isFull() {
            return size >= most;
        }

        int symbolAt(int row, int i) {
            return symbols[row * LONGEST + i];
        }

        void startRow() {
            lengths[size] = 0;
            variables[size] = 0;
        }

        boolean rowHasRoom(int more) {
            return lengths[size] + more <= LONGEST;
        }

        void append(int symbol, boolean isVariable) {
            symbols[size * LONGEST + lengths[size]] = symbol;
            lengths[size]++;
            if (isVariable) {
                variables[size] |= 1L << symbol;
            }
        }

        /** Appends what is behind the type of a row of others. */
        void appendBody(Expressions others, int row) {
            for (int i = 1; i < others.lengths[row]; i++) {
                symbols[size * LONGEST + lengths[size]] = others.symbols[row * LONGEST + i];
                lengths[size]++;
            }
            variables[size] |= others.variables[row];
        }

        void addCopy(Expressions others, int row) {
            System.arraycopy(others.symbols, row * LONGEST, symbols, size * LONGEST, others.lengths[row]);
            lengths[size] = others.lengths[row];
            variables[size] = others.variables[row];
            size++;
        }

        boolean isSame(int row, Expressions others, int other) {
            if (lengths[row] != others.lengths[other]) {
                return false;
            }
            for (int i = 0; i < lengths[row]; i++) {
                if (symbols[row * LONGEST + i] != others.symbols[other * LONGEST + i]) {
                    return false;
                }
            }
            return true;
        }
    }

    /** The statements with labels; the one behind the last is the one that is being read. */
    private static final class Statements {
        static final int MOST = 40;
        static final int FLOATING = 0;
        static final int ESSENTIAL = 1;
        static final int AXIOM = 2;
        static final int THEOREM = 3;

        final long[] labels;
        final int[] kinds;
        final Expressions expressions;
        // Of an assertion: the set of its mandatory hypotheses, and its number among the assertions.
        final long[] mandatory;
        final int[] assertions;

        Statements() {
            labels = new long[MOST];
            kinds = new int[MOST];
            expressions = new Expressions(MOST);
            mandatory = new long[MOST];
            assertions = new int[MOST];
        }

        void start(long label) {
            labels[expressions.size] = label;
            expressions.startRow();
        }

        boolean isHypothesis(int statement) {
            return kinds[statement] == FLOATING || kinds[statement] == ESSENTIAL;
        }

        int countKind(int kind) {
            int found = 0;
            for (int i = 0; i < expressions.size; i++) {
                if (kinds[i] == kind) {
                    found++;
                }
            }
            return found;
        }

        boolean isMandatory(int statement, int hypothesis) {
            return (mandatory[statement] >>> hypothesis & 1) != 0;
        }

        /** The i-th mandatory hypothesis of an assertion, NONE when there is none. */
        int findMandatory(int statement, int i) {
            int before = 0;
            for (int h = 0; h < statement; h++) {
                if (isMandatory(statement, h)) {
                    if (before == i) {
                        return h;
                    }
                    before++;
                }
            }
            return NONE;
        }
    }

    /** What axioms and theorems have beside their statements; the one behind the last is the one that is being read. */
    private static final class Assertions {
        final int[] statements;
        final int[] pairCounts;
        final int[] pairs;
        final int[] stepCounts;
        final int[] heights;
        final int[] useCounts;
        final boolean[] incomplete;
        // Whether it is an axiom, or its proof and all that the proof rests on are complete.
        final boolean[] sound;
        int size;

        Assertions() {
            statements = new int[Statements.MOST];
            pairCounts = new int[Statements.MOST];
            pairs = new int[Statements.MOST * Context.MOST_PAIRS];
            stepCounts = new int[Statements.MOST];
            heights = new int[Statements.MOST];
            useCounts = new int[Statements.MOST * Statements.MOST];
            incomplete = new boolean[Statements.MOST];
            sound = new boolean[Statements.MOST];
        }

        boolean has(int k) {
            return k >= 0 && k < size;
        }

        void start(int statement) {
            statements[size] = statement;
            pairCounts[size] = 0;
            stepCounts[size] = 0;
            heights[size] = 0;
            incomplete[size] = false;
            sound[size] = true;
            for (int j = 0; j < Statements.MOST; j++) {
                useCounts[size * Statements.MOST + j] = 0;
            }
        }

        void addPair(int pair) {
            pairs[size * Context.MOST_PAIRS + pairCounts[size]] = pair;
            pairCounts[size]++;
        }

        void noteStep(int height) {
            stepCounts[size]++;
            heights[size] = Math.max(heights[size], height);
        }

        void noteUse(int used) {
            useCounts[size * Statements.MOST + used]++;
            sound[size] = sound[size] && sound[used];
        }

        void noteGap() {
            incomplete[size] = true;
            sound[size] = false;
        }

        int firstOfPair(int k, int i) {
            return Context.firstOf(pairs[k * Context.MOST_PAIRS + i]);
        }

        int secondOfPair(int k, int i) {
            return Context.secondOf(pairs[k * Context.MOST_PAIRS + i]);
        }

        int countUses(int k, int j) {
            return useCounts[k * Statements.MOST + j];
        }

        int countIncomplete() {
            int found = 0;
            for (int k = 0; k < size; k++) {
                if (incomplete[k]) {
                    found++;
                }
            }
            return found;
        }
    }

    /** What is active: as scopes only add to it, closing one brings back what was there at its opening. */
    private static final class Context {
        static final int MOST_SCOPES = 6;
        static final int MOST_PAIRS = 40;

        long variables;
        long typed;
        long hypotheses;
        final int[] pairs;
        int pairCount;
        // For each name the set of those from which it is apart.
        final long[] apartFrom;
        int scopes;
        final long[] outerVariables;
        final long[] outerTyped;
        final long[] outerHypotheses;
        final int[] outerPairCounts;

        Context() {
            pairs = new int[MOST_PAIRS];
            apartFrom = new long[Names.MOST];
            outerVariables = new long[MOST_SCOPES];
            outerTyped = new long[MOST_SCOPES];
            outerHypotheses = new long[MOST_SCOPES];
            outerPairCounts = new int[MOST_SCOPES];
        }

        static int pairOf(int first, int second) {
            return first * Names.MOST + second;
        }

        static int firstOf(int pair) {
            return pair / Names.MOST;
        }

        static int secondOf(int pair) {
            return pair % Names.MOST;
        }

        void begin() {
            variables = 0;
            typed = 0;
            hypotheses = 0;
            scopes = 0;
            forgetPairs(0);
        }

        int openScope() {
            if (scopes >= MOST_SCOPES) {
                return ROOM;
            }
            outerVariables[scopes] = variables;
            outerTyped[scopes] = typed;
            outerHypotheses[scopes] = hypotheses;
            outerPairCounts[scopes] = pairCount;
            scopes++;
            return FINE;
        }

        int closeScope() {
            if (scopes == 0) {
                return SCOPE;
            }
            scopes--;
            variables = outerVariables[scopes];
            typed = outerTyped[scopes];
            hypotheses = outerHypotheses[scopes];
            forgetPairs(outerPairCounts[scopes]);
            return FINE;
        }

        private void forgetPairs(int kept) {
            pairCount = 0;
            Arrays.fill(apartFrom, 0);
            for (int i = 0; i < kept; i++) {
                addPair(firstOf(pairs[i]), secondOf(pairs[i]));
            }
        }

        void addPair(int first, int second) {
            pairs[pairCount] = pairOf(first, second);
            pairCount++;
            apartFrom[first] |= 1L << second;
            apartFrom[second] |= 1L << first;
        }

        /** Whether each of some is apart from each of others; as none is apart from itself, none may be in both. */
        boolean areApart(long some, long others) {
            for (int v = 0; v < Names.MOST && some >>> v != 0; v++) {
                if ((some >>> v & 1) != 0 && (others & ~apartFrom[v]) != 0) {
                    return false;
                }
            }
            return true;
        }
    }

    /** The stack that the proof of the theorem being read makes. */
    private static final class Proof {
        static final int MOST = 16;

        final Names names;
        final Statements statements;
        final Assertions assertions;
        final Context context;
        final Expressions stack;
        final Expressions result;
        // For each variable of the assertion of a step the row of the stack that replaces it.
        final int[] replacements;
        boolean incomplete;

        Proof(Names names, Statements statements, Assertions assertions, Context context) {
            this.names = names;
            this.statements = statements;
            this.assertions = assertions;
            this.context = context;
            stack = new Expressions(MOST);
            result = new Expressions(1);
            replacements = new int[Names.MOST];
        }

        void begin() {
            stack.size = 0;
            incomplete = false;
        }

        void leaveGap() {
            incomplete = true;
            assertions.noteGap();
        }

        int stepWith(int statement) {
            if (incomplete) {
                return FINE;
            }
            if (statements.isHypothesis(statement)) {
                return put(statements.expressions, statement);
            }
            int base = stack.size - Long.bitCount(statements.mandatory[statement]);
            if (base < 0) {
                return STACK;
            }
            if (!bind(statement, base)) {
                return MATCH;
            }
            if (!keepsApart(statements.assertions[statement])) {
                return APART;
            }
            if (!replaceIn(statement)) {
                return ROOM;
            }
            stack.size = base;
            assertions.noteUse(statements.assertions[statement]);
            return put(result, 0);
        }

        int put(Expressions from, int row) {
            if (stack.isFull()) {
                return ROOM;
            }
            stack.addCopy(from, row);
            assertions.noteStep(stack.size);
            return FINE;
        }

        /** Holds the mandatory hypotheses against the stack from a row on; false when one does not match. */
        private boolean bind(int statement, int base) {
            Expressions asked = statements.expressions;
            int row = base;
            for (int h = 0; h < statement; h++) {
                if (!statements.isMandatory(statement, h)) {
                    continue;
                }
                if (statements.kinds[h] == Statements.FLOATING) {
                    if (stack.symbolAt(row, 0) != asked.symbolAt(h, 0)) {
                        return false;
                    }
                    replacements[asked.symbolAt(h, 1)] = row;
                } else if (!replaceIn(h) || !stack.isSame(row, result, 0)) {
                    return false;
                }
                row++;
            }
            return true;
        }

        /** Makes the result a statement's expression with its variables replaced; false when it is too long. */
        private boolean replaceIn(int statement) {
            Expressions asked = statements.expressions;
            result.startRow();
            for (int i = 0; i < asked.lengths[statement]; i++) {
                int symbol = asked.symbolAt(statement, i);
                boolean replaced = names.roles[symbol] == Names.VARIABLE;
                if (!result.rowHasRoom(replaced ? stack.lengths[replacements[symbol]] - 1 : 1)) {
                    return false;
                }
                if (replaced) {
                    result.appendBody(stack, replacements[symbol]);
                } else {
                    result.append(symbol, false);
                }
            }
            return true;
        }

        private boolean keepsApart(int used) {
            for (int i = 0; i < assertions.pairCounts[used]; i++) {
                int first = replacements[assertions.firstOfPair(used, i)];
                int second = replacements[assertions.secondOfPair(used, i)];
                if (!context.areApart(stack.variables[first], stack.variables[second])) {
                    return false;
                }
            }
            return true;
        }

        int finish(int theorem) {
            if (incomplete) {
                return FINE;
            }
            if (stack.size != 1) {
                return STACK;
            }
            return stack.isSame(0, statements.expressions, theorem) ? FINE : MATCH;
        }
    }

    /** The labels, numbers and tags of a compressed proof. */
    private static final class Letters {
        static final int MOST_LISTED = 20;
        static final int MOST_TAGGED = 16;
        static final int HIGHEST = 9999;

        final Statements statements;
        final Proof proof;
        // The theorem's mandatory hypotheses, and behind them the labels that are listed.
        final int[] references;
        int referenceCount;
        int listed;
        final Expressions tagged;
        // With those that tag nothing as they stand behind a gap.
        int tagCount;
        int number;
        boolean insideNumber;
        boolean behindNumber;

        Letters(Statements statements, Proof proof) {
            this.statements = statements;
            this.proof = proof;
            references = new int[Statements.MOST + MOST_LISTED];
            tagged = new Expressions(MOST_TAGGED);
        }

        void begin(int theorem) {
            referenceCount = 0;
            for (int h = 0; h < theorem; h++) {
                if (statements.isMandatory(theorem, h)) {
                    references[referenceCount] = h;
                    referenceCount++;
                }
            }
            listed = 0;
            tagged.size = 0;
            tagCount = 0;
            insideNumber = false;
            behindNumber = false;
        }

        int addListed(int statement) {
            if (listed >= MOST_LISTED) {
                return ROOM;
            }
            references[referenceCount] = statement;
            referenceCount++;
            listed++;
            return FINE;
        }

        int takeLetters(Text text) {
            for (int i = text.start; i < text.end; i++) {
                int letter = text.characters[i];
                if (letter != '?' && (letter < 'A' || letter > 'Z')) {
                    return WORD;
                }
            }
            int fault = FINE;
            for (int i = text.start; i < text.end && fault == FINE; i++) {
                fault = takeLetter(text.characters[i]);
                if (fault == FINE && behindNumber) {
                    fault = stepWithNumber();
                }
            }
            return fault;
        }

        private int takeLetter(int letter) {
            if (letter == '?') {
                return addGap();
            }
            if (letter == 'Z') {
                return addTag();
            }
            int before = insideNumber ? number : 0;
            insideNumber = letter >= 'U';
            behindNumber = !insideNumber;
            number = insideNumber ? 5 * before + letter - 'U' + 1 : 20 * before + letter - 'A' + 1;
            return number > HIGHEST ? ROOM : FINE;
        }

        private int stepWithNumber() {
            if (number <= referenceCount) {
                return proof.stepWith(references[number - 1]);
            }
            int tag = number - referenceCount - 1;
            if (tag >= tagCount) {
                return PROOF;
            }
            return proof.incomplete ? FINE : proof.put(tagged, tag);
        }

        private int addGap() {
            if (insideNumber) {
                return PROOF;
            }
            behindNumber = false;
            proof.leaveGap();
            return FINE;
        }

        private int addTag() {
            if (!behindNumber) {
                return PROOF;
            }
            if (tagCount >= MOST_TAGGED) {
                return ROOM;
            }
            behindNumber = false;
            tagCount++;
            if (!proof.incomplete) {
                tagged.addCopy(proof.stack, proof.stack.size - 1);
            }
            return FINE;
        }
    }

    /** Takes the text word by word; each word answers the fault that is met at it, or FINE. */
    private static final class Reader {
        // What has been come to, and so what the next word may be.
        static final int BEGINNING = 0;
        static final int CONSTANTS = 1;
        static final int VARIABLES = 2;
        static final int APARTS = 3;
        static final int LABELLED = 4;
        static final int FLOATING_TYPE = 5;
        static final int FLOATING_VARIABLE = 6;
        static final int FLOATING_END = 7;
        static final int TYPE = 8;
        static final int SYMBOLS = 9;
        static final int PROOF_BEGINNING = 10;
        static final int STEPS = 11;
        static final int LISTING = 12;
        static final int LETTERS = 13;

        static final int NOTHING = -1;

        final Names names;
        final Statements statements;
        final Assertions assertions;
        final Context context;
        final Proof proof;
        final Letters letters;
        int stage;
        // How many names the statement without a label has, and, of a $d, which.
        int taken;
        long takenVariables;

        Reader(Names names, Statements statements, Assertions assertions) {
            this.names = names;
            this.statements = statements;
            this.assertions = assertions;
            context = new Context();
            proof = new Proof(names, statements, assertions, context);
            letters = new Letters(statements, proof);
        }

        void begin() {
            names.begin();
            statements.expressions.size = 0;
            assertions.size = 0;
            context.begin();
            stage = BEGINNING;
        }

        /** Whether a statement or a scope has no end yet. */
        boolean isInside() {
            return stage != BEGINNING || context.scopes > 0;
        }

        /** Takes a word with a $. */
        int takeKeyword(Text text) {
            int keyword = text.keyword();
            switch (stage) {
                case BEGINNING:
                    return beginUnlabelled(keyword);
                case CONSTANTS:
                case VARIABLES:
                case APARTS:
                    return endNames(keyword);
                case LABELLED:
                    return takeKind(keyword);
                case FLOATING_END:
                    return keyword == '.' ? declare() : WORD;
                case SYMBOLS:
                    return endSymbols(keyword);
                case PROOF_BEGINNING:
                case STEPS:
                case LETTERS:
                    return keyword == '.' ? endProof() : WORD;
                default:
                    return WORD;
            }
        }

        int takeName(Text text) {
            if (text.isTooLong()) {
                return WORD;
            }
            switch (stage) {
                case BEGINNING:
                    return takeLabel(text.code);
                case CONSTANTS:
                    return declareConstant(text.code);
                case VARIABLES:
                    return declareVariable(text.code);
                case APARTS:
                    return takeApart(names.find(text.code));
                case FLOATING_TYPE:
                case TYPE:
                    return takeType(names.find(text.code));
                case FLOATING_VARIABLE:
                    return takeFloating(names.find(text.code));
                case SYMBOLS:
                    return takeSymbol(names.find(text.code));
                case PROOF_BEGINNING:
                    return beginSteps(text.code);
                case STEPS:
                    return takeStep(text.code);
                case LISTING:
                    return takeListed(text.code);
                case LETTERS:
                    return letters.takeLetters(text);
                default:
                    return WORD;
            }
        }

        private int beginUnlabelled(int keyword) {
            switch (keyword) {
                case '{':
                    return context.openScope();
                case '}':
                    return context.closeScope();
                case 'c':
                    return context.scopes > 0 ? SCOPE : beginNames(CONSTANTS);
                case 'v':
                    return beginNames(VARIABLES);
                case 'd':
                    return beginNames(APARTS);
                default:
                    return WORD;
            }
        }

        private int beginNames(int next) {
            stage = next;
            taken = 0;
            takenVariables = 0;
            return FINE;
        }

        private int endNames(int keyword) {
            int least = stage == APARTS ? 2 : 1;
            if (keyword != '.' || taken < least) {
                return WORD;
            }
            stage = BEGINNING;
            return FINE;
        }

        private int declareConstant(long code) {
            if (names.find(code) != NONE) {
                return NAME;
            }
            if (names.isFull()) {
                return ROOM;
            }
            names.add(code, Names.CONSTANT);
            taken++;
            return FINE;
        }

        private int declareVariable(long code) {
            int name = names.find(code);
            if (name == NONE && names.isFull()) {
                return ROOM;
            }
            if (name == NONE) {
                name = names.add(code, Names.VARIABLE);
            } else if (names.roles[name] != Names.VARIABLE || isActive(name)) {
                return NAME;
            }
            context.variables |= 1L << name;
            taken++;
            return FINE;
        }

        private boolean isActive(int variable) {
            return (context.variables >>> variable & 1) != 0;
        }

        private boolean isTyped(int variable) {
            return (context.typed >>> variable & 1) != 0;
        }

        /** CONSTANT or VARIABLE as the name can stand in a statement now, NOTHING when it can't. */
        private int meaningOf(int name) {
            if (name == NONE) {
                return NOTHING;
            }
            if (names.roles[name] == Names.CONSTANT) {
                return Names.CONSTANT;
            }
            return isActive(name) ? Names.VARIABLE : NOTHING;
        }

        private int takeApart(int name) {
            int meaning = meaningOf(name);
            if (meaning != Names.VARIABLE) {
                return meaning == NOTHING ? NAME : KIND;
            }
            if ((takenVariables >>> name & 1) != 0) {
                return NAME;
            }
            if (context.pairCount + taken > Context.MOST_PAIRS) {
                return ROOM;
            }
            for (int other = 0; other < names.size; other++) {
                if ((takenVariables >>> other & 1) != 0) {
                    context.addPair(other, name);
                }
            }
            takenVariables |= 1L << name;
            taken++;
            return FINE;
        }

        private int takeLabel(long code) {
            if (names.find(code) != NONE) {
                return NAME;
            }
            if (names.isFull() || statements.expressions.isFull()) {
                return ROOM;
            }
            statements.start(code);
            stage = LABELLED;
            return FINE;
        }

        private int takeKind(int keyword) {
            int statement = statements.expressions.size;
            switch (keyword) {
                case 'f':
                    statements.kinds[statement] = Statements.FLOATING;
                    break;
                case 'e':
                    statements.kinds[statement] = Statements.ESSENTIAL;
                    break;
                case 'a':
                    statements.kinds[statement] = Statements.AXIOM;
                    break;
                case 'p':
                    statements.kinds[statement] = Statements.THEOREM;
                    break;
                default:
                    return WORD;
            }
            stage = keyword == 'f' ? FLOATING_TYPE : TYPE;
            return FINE;
        }

        private int takeType(int name) {
            int meaning = meaningOf(name);
            if (meaning != Names.CONSTANT) {
                return meaning == NOTHING ? NAME : KIND;
            }
            statements.expressions.append(name, false);
            stage = stage == FLOATING_TYPE ? FLOATING_VARIABLE : SYMBOLS;
            return FINE;
        }

        private int takeFloating(int name) {
            int meaning = meaningOf(name);
            if (meaning != Names.VARIABLE) {
                return meaning == NOTHING ? NAME : KIND;
            }
            if (isTyped(name)) {
                return NAME;
            }
            statements.expressions.append(name, true);
            stage = FLOATING_END;
            return FINE;
        }

        private int takeSymbol(int name) {
            int meaning = meaningOf(name);
            if (meaning == NOTHING || meaning == Names.VARIABLE && !isTyped(name)) {
                return NAME;
            }
            if (!statements.expressions.rowHasRoom(1)) {
                return ROOM;
            }
            statements.expressions.append(name, meaning == Names.VARIABLE);
            return FINE;
        }

        private int endSymbols(int keyword) {
            int statement = statements.expressions.size;
            boolean theorem = statements.kinds[statement] == Statements.THEOREM;
            if (keyword != (theorem ? '=' : '.')) {
                return WORD;
            }
            if (!statements.isHypothesis(statement)) {
                beginAssertion(statement);
            }
            if (!theorem) {
                return declare();
            }
            proof.begin();
            stage = PROOF_BEGINNING;
            return FINE;
        }

        /** Finds out what is mandatory for an assertion: nothing can change that up to its end. */
        private void beginAssertion(int statement) {
            assertions.start(statement);
            statements.assertions[statement] = assertions.size;
            long variables = mandatoryVariables(statement);
            statements.mandatory[statement] = 0;
            for (int h = 0; h < statement; h++) {
                boolean occurs = (statements.expressions.variables[h] & variables) != 0;
                boolean essential = statements.kinds[h] == Statements.ESSENTIAL;
                if (isActiveHypothesis(h) && (essential || occurs)) {
                    statements.mandatory[statement] |= 1L << h;
                }
            }
            keepPairs(variables);
        }

        private long mandatoryVariables(int statement) {
            long variables = statements.expressions.variables[statement];
            for (int h = 0; h < statement; h++) {
                if (isActiveHypothesis(h) && statements.kinds[h] == Statements.ESSENTIAL) {
                    variables |= statements.expressions.variables[h];
                }
            }
            return variables;
        }

        private boolean isActiveHypothesis(int statement) {
            return (context.hypotheses >>> statement & 1) != 0;
        }

        private void keepPairs(long variables) {
            for (int first = 0; first < names.size; first++) {
                long others = (variables >>> first & 1) != 0 ? context.apartFrom[first] & variables : 0;
                for (int second = first + 1; second < names.size && others != 0; second++) {
                    if ((others >>> second & 1) != 0) {
                        assertions.addPair(Context.pairOf(first, second));
                    }
                }
            }
        }

        private int beginSteps(long code) {
            if (code != '(') {
                stage = STEPS;
                return takeStep(code);
            }
            letters.begin(statements.expressions.size);
            stage = LISTING;
            return FINE;
        }

        private int takeStep(long code) {
            if (code == '?') {
                proof.leaveGap();
                return FINE;
            }
            int statement = findUsable(code);
            return statement == NONE ? PROOF : proof.stepWith(statement);
        }

        private int takeListed(long code) {
            if (code == ')') {
                stage = LETTERS;
                return FINE;
            }
            int statement = findUsable(code);
            if (statement == NONE || statements.isMandatory(statements.expressions.size, statement)) {
                return PROOF;
            }
            return letters.addListed(statement);
        }

        /** The active hypothesis or earlier assertion with this label, NONE when there is none. */
        private int findUsable(long code) {
            int name = names.find(code);
            if (name == NONE || names.roles[name] != Names.LABEL) {
                return NONE;
            }
            int statement = names.statements[name];
            return statements.isHypothesis(statement) && !isActiveHypothesis(statement) ? NONE : statement;
        }

        private int endProof() {
            if (stage == LETTERS && letters.insideNumber) {
                return PROOF;
            }
            int fault = proof.finish(statements.expressions.size);
            return fault == FINE ? declare() : fault;
        }

        private int declare() {
            int statement = statements.expressions.size;
            int name = names.add(statements.labels[statement], Names.LABEL);
            names.statements[name] = statement;
            if (statements.isHypothesis(statement)) {
                context.hypotheses |= 1L << statement;
            } else {
                assertions.size++;
            }
            if (statements.kinds[statement] == Statements.FLOATING) {
                context.typed |= statements.expressions.variables[statement];
            }
            statements.expressions.size++;
            stage = BEGINNING;
            return FINE;
        }
    }
}
