/**
 * The boundary cases of promises 6 to 15: what count, label, symbol, hypothesis, pairs, apart, steps, depth, uses
 * and proved answer. Each method holds to one sentence of the document.
 */
public final class AnswerBoundaryTest {
    private static final int NONE = ProofLedger.NONE;
    private static final int[] FAR = {Integer.MIN_VALUE, Integer.MIN_VALUE + 1, -1600, -41, -40, -2, -1, 40, 41, 60, 1600,
        1 << 16, 1 << 27, 1 << 30, Integer.MAX_VALUE - 1, Integer.MAX_VALUE};
    private static final String TYPED = "$c t $. $v x y z $. fx $f t x $. fy $f t y $. fz $f t z $. ";

    private AnswerBoundaryTest() {
    }

    public static void main(String[] args) {
        countsActiveOrNot();
        countsBeforeAFault();
        countsOfAnotherWhat();
        labelsAsDigits();
        noSuchLabel();
        symbolsOfAnExpression();
        noSuchSymbol();
        mandatoryInOrder();
        noSuchHypothesis();
        differentPairs();
        pairsOfSuchVariables();
        pairsWhenDeclared();
        noSuchPairs();
        inEitherOrder();
        falseForAllElse();
        stepsBeforeAGap();
        stepsOfAnAxiom();
        greatestDepth();
        depthOfAnAxiom();
        usesBeforeAGap();
        usesOfNone();
        provedAndSoOn();
        provedOfNone();
        Check.end();
    }

    private static void countsActiveOrNot() {
        Check.sentence("How many there are after the latest read(), active or not.");
        ProofLedger x = Check.reads("$c a b $. ${ $v x y $. f $f a x $. h $e a x $. $} ${ $v x z $. g $f b x $. "
            + "i $e b $. j $e b x $. l $a b $. $} ${ m $p a $= ? $. $} n $p b $= ( ) ? $. o $a a $. p $p a $= o $.", 5);
        int[] due = {2, 3, 2, 3, 2, 3, 2};
        counts(x, due);
        ProofLedger y = Check.reads("$c a $. " + Check.times(40, "${ h# $e a $. $}"), 0);
        Check.due("essential ones, none of them active", y.count(3), 40);
        Check.due("incomplete ones", Check.reads("$c a $. " + Check.times(40, "l# $p a $= ? $."), 40).count(6), 40);
        counts(Check.reads("", 0), new int[7]);
    }

    private static void counts(ProofLedger x, int[] due) {
        for (int what = 0; what < 7; what++) {
            Check.due("count " + what, x.count(what), due[what]);
        }
    }

    private static void countsBeforeAFault() {
        Check.sentence("What was declared before a fault counts.");
        counts(Check.faultAtLast("$c a b a", ProofLedger.NAME), new int[] {2, 0, 0, 0, 0, 0, 0});
        counts(Check.faultAtLast("$c a $. $v x y x", ProofLedger.NAME), new int[] {1, 2, 0, 0, 0, 0, 0});
        String start = "$c a $. $v x y $. f $f a x $. h $e a $. l $a a $. m $p a $= h $. n $p a $= ? $. ";
        int[] due = {1, 2, 1, 1, 1, 2, 1};
        counts(Check.faultAtLast(start + "$}", ProofLedger.SCOPE), due);
        counts(Check.faultAtLast(start + "q $f a y y", ProofLedger.WORD), due);
        counts(Check.faultAtLast(start + "q $e a y", ProofLedger.NAME), due);
        counts(Check.faultAtLast(start + "q $a a =", ProofLedger.NAME), due);
        counts(Check.faultAtLast(start + "q $p a $= ? q", ProofLedger.PROOF), due);
        counts(Check.faultAtLast(start + "q $p a $= f $.", ProofLedger.MATCH), due);
        counts(Check.unended(start + "q $p a $= ?"), due);
        counts(Check.unended(start + "${"), due);
    }

    private static void countsOfAnotherWhat() {
        Check.sentence("count: NONE for another what.");
        ProofLedger x = Check.reads("$c a $. l $a a $.", 1);
        Check.due("what 0", x.count(0), 1);
        Check.due("what 6", x.count(6), 0);
        Check.due("what -1", x.count(-1), NONE);
        Check.due("what 7", x.count(7), NONE);
        for (int what : FAR) {
            Check.due("what " + what, x.count(what), NONE);
            Check.due("what " + what + " of a new object", new ProofLedger().count(what), NONE);
        }
    }

    private static void labelsAsDigits() {
        Check.sentence("The label of assertion k (in their order, from 0), as the number that its characters make as digits "
            + "to the base 128, the first one highest.");
        ProofLedger x = Check.reads("$c a $. ! $a a $. ${ h $e a $. ~ $a a $. $} ~! $a a $. ~~~~~~~~ $p a $= ! $. "
            + "!!!!!!!! $a a $. ba $a a $.", 6);
        long[] due = {33, 126, 126 * 128 + 33, 0xFDFBF7EFDFBF7EL, 0x4285_0A14_2850A1L, 98 * 128 + 97};
        for (int k = 0; k < due.length; k++) {
            Check.due("label " + k, x.label(k), due[k]);
        }
        ProofLedger most = Check.reads("$c a $. " + Check.times(40, "l# $a a $."), 40);
        for (int k = 0; k < 40; k++) {
            Check.due("label " + k + " of 40", most.label(k), Check.code("l" + k));
        }
    }

    private static void noSuchLabel() {
        Check.sentence("label: NONE when there is none.");
        ProofLedger x = Check.reads("$c a $. h $e a $. l $a a $. m $p a $= h $.", 2);
        Check.due("label -1", x.label(-1), NONE);
        Check.due("label 1", x.label(1), 'm');
        Check.due("label 2", x.label(2), NONE);
        ProofLedger most = Check.reads("$c a $. " + Check.times(40, "l# $a a $."), 40);
        for (int k : FAR) {
            Check.due("label " + k, x.label(k), NONE);
            Check.due("label " + k + " of 40", most.label(k), NONE);
        }
        ProofLedger faulty = Check.unended("$c a $. l $a a $. m $p a $= l");
        Check.due("one that has no end", faulty.label(1), NONE);
    }

    private static void symbolsOfAnExpression() {
        Check.sentence("Symbol i of assertion k's expression, in the same way.");
        ProofLedger x = Check.reads("$c ~~~~~~~~ ! $. $v ab $. f $f ! ab $. l $a ~~~~~~~~ $. m $p ! ab $= f $. "
            + "n $a ! " + Check.times(11, "ab !") + "ab $.", 3);
        Check.due("one symbol", x.symbol(0, 0), Check.code("~~~~~~~~"));
        Check.due("a theorem's first", x.symbol(1, 0), '!');
        Check.due("a theorem's last", x.symbol(1, 1), 97 * 128 + 98);
        for (int i = 0; i < 24; i++) {
            Check.due("symbol " + i + " of 24", x.symbol(2, i), i % 2 == 0 ? '!' : Check.code("ab"));
        }
    }

    private static void noSuchSymbol() {
        Check.sentence("symbol: NONE when there is none.");
        ProofLedger x = Check.reads("$c a $. l $a a $. m $a a a $. n $a " + Check.times(24, "a") + "$.", 3);
        int[] lengths = {1, 2, 24};
        for (int k = 0; k < lengths.length; k++) {
            Check.due("the last of " + k, x.symbol(k, lengths[k] - 1), 'a');
            Check.due("behind the last of " + k, x.symbol(k, lengths[k]), NONE);
            Check.due("before the first of " + k, x.symbol(k, -1), NONE);
            Check.due("a row before the first of " + k, x.symbol(k, -24), NONE);
            for (int i : FAR) {
                Check.due("symbol " + i + " of " + k, x.symbol(k, i), NONE);
            }
        }
        Check.due("of no assertion", x.symbol(3, 0), NONE);
        Check.due("of none below", x.symbol(-1, 0), NONE);
        for (int k : FAR) {
            Check.due("symbol of " + k, x.symbol(k, 0), NONE);
            Check.due("symbol of " + k + " itself", x.symbol(k, k), NONE);
        }
    }

    private static void mandatoryInOrder() {
        Check.sentence("The MANDATORY ones are, in the order in which they were declared, the active essential ones, and the "
            + "active floating ones of those variables that occur in these or in the assertion.");
        mandatory(TYPED + "l $a t $.");
        mandatory(TYPED + "l $a t y $.", "fy");
        mandatory(TYPED + "l $a t z x z $.", "fx", "fz");
        mandatory(TYPED + "e $e t y $. l $a t $.", "fy", "e");
        mandatory(TYPED + "e $e t $. l $a t $.", "e");
        mandatory(TYPED + "e $e t y $. g $e t z $. l $a t x $.", "fx", "fy", "fz", "e", "g");
        mandatory("$c t $. e $e t $. $v x $. fx $f t x $. g $e t $. l $a t x $.", "e", "fx", "g");
        mandatory(TYPED + "${ e $e t y $. $} l $a t x $.", "fx");
        mandatory(TYPED + "e $e t y $. ${ g $e t x $. $} l $a t $.", "fy", "e");
        mandatory(TYPED + "${ ${ e $e t y $. $} g $e t x $. l $a t $. $}", "fx", "g");
        mandatory(TYPED + "l $p t x $= fx $.", "fx");
        // A variable that stands in the proof alone makes none mandatory.
        mandatory(TYPED + "l $p t $= fx fy ? $.");
        // The type that is active, not the one that was.
        mandatory("$c t s $. $v x $. ${ gx $f s x $. $} fx $f t x $. l $a t x $.", "fx");
        mandatory("$c t s $. ${ $v x $. gx $f s x $. $} $v x $. fx $f t x $. l $a s x $.", "fx");
        // As many as there can be.
        String[] labels = new String[39];
        for (int i = 0; i < labels.length; i++) {
            labels[i] = "h" + i;
        }
        mandatory("$c t $. " + Check.times(39, "h# $e t $.") + "l $a t $.", labels);
    }

    private static void mandatory(String text, String... labels) {
        ProofLedger x = Check.reads(text, 1);
        for (int i = 0; i < labels.length; i++) {
            Check.due("hypothesis " + i + " in '" + text + "'", x.hypothesis(0, i), Check.code(labels[i]));
        }
        Check.due("the next one in '" + text + "'", x.hypothesis(0, labels.length), NONE);
        Check.due("one below in '" + text + "'", x.hypothesis(0, -1), NONE);
    }

    private static void noSuchHypothesis() {
        Check.sentence("hypothesis: NONE when there is none.");
        ProofLedger x = Check.reads(TYPED + "e $e t y $. l $a t x $. m $p t x $= ? $.", 2);
        for (int k = 0; k < 2; k++) {
            Check.due("the last of " + k, x.hypothesis(k, 2), 'e');
            Check.due("behind the last of " + k, x.hypothesis(k, 3), NONE);
            Check.due("before the first of " + k, x.hypothesis(k, -1), NONE);
        }
        Check.due("of no assertion", x.hypothesis(2, 0), NONE);
        Check.due("of none below", x.hypothesis(-1, 0), NONE);
        for (int far : FAR) {
            Check.due("hypothesis " + far, x.hypothesis(0, far), NONE);
            Check.due("hypothesis of " + far, x.hypothesis(far, 0), NONE);
        }
    }

    private static void differentPairs() {
        Check.sentence("Its mandatory PAIRS are the different pairs.");
        String[] aparts = {"", "$d x y $. ", "$d x y $. $d x y $. ", "$d x y $. $d y x $. ", "$d x y z $. ",
            "$d x y z $. $d z y x $. $d x z $. ", "$d y z $. $d x z $. "};
        int[] due = {0, 1, 1, 1, 3, 3, 2};
        for (int i = 0; i < aparts.length; i++) {
            Check.due("pairs with " + aparts[i], Check.reads(TYPED + aparts[i] + "l $a t x y z $.", 1).pairs(0), due[i]);
        }
        // 40 of them, and 40 times the same.
        StringBuilder text = new StringBuilder("$c t $. $v a b c d e f g h i j $. ");
        for (char c = 'a'; c <= 'j'; c++) {
            text.append("f").append(c).append(" $f t ").append(c).append(" $. ");
        }
        String all = "l $a t a b c d e f g h i j $.";
        ProofLedger most = Check.reads(text + "$d a b c d e f g h i $. $d a j $. $d j b $. $d c j $. $d j d $. " + all, 1);
        Check.due("40 pairs", most.pairs(0), 40);
        Check.due("the first", most.apart(0, 'a', 'b'), true);
        Check.due("the last", most.apart(0, 'd', 'j'), true);
        Check.due("none of them", most.apart(0, 'e', 'j'), false);
        Check.due("the same 40 times", Check.reads(text + Check.times(40, "$d a b $.") + all, 1).pairs(0), 1);
    }

    private static void pairsOfSuchVariables() {
        Check.sentence("The different pairs of such variables that are apart.");
        String start = TYPED + "$d x y z $. ";
        String[] statements = {"l $a t $.", "l $a t x $.", "l $a t x x $.", "l $a t y $.", "l $a t z $.",
            "${ e $e t x y $. $} l $a t $.", "l $p t $= fx fy ? $.", "l $a t x y $.", "l $a t y x y $.",
            "e $e t x $. l $a t y $.", "e $e t x y $. l $a t $.", "l $a t x z $.", "l $a t z y $.", "l $a t z y x $."};
        int[] due = {0, 0, 0, 0, 0, 0, 0, 1, 1, 1, 1, 1, 1, 3};
        for (int i = 0; i < statements.length; i++) {
            ProofLedger x = Check.reads(start + statements[i], 1);
            Check.due("pairs of " + statements[i], x.pairs(0), due[i]);
            Check.due("x and y of " + statements[i], x.apart(0, 'x', 'y'), i >= 7 && i <= 10 || i == 13);
            Check.due("x and z of " + statements[i], x.apart(0, 'x', 'z'), i == 11 || i == 13);
            Check.due("y and z of " + statements[i], x.apart(0, 'y', 'z'), i == 12 || i == 13);
        }
    }

    private static void pairsWhenDeclared() {
        Check.sentence("That are apart when it is declared.");
        ProofLedger x = Check.reads(TYPED + "k $a t x y z $. ${ $d x y $. l $a t x y z $. ${ $d x z $. m $a t x y z $. $} "
            + "n $a t x y z $. $} o $a t x y z $. $d y z $. p $p t x y z $= ? $.", 6);
        int[] due = {0, 1, 2, 1, 0, 1};
        for (int k = 0; k < due.length; k++) {
            Check.due("pairs of " + k, x.pairs(k), due[k]);
            Check.due("x and y of " + k, x.apart(k, 'x', 'y'), k >= 1 && k <= 3);
            Check.due("z and x of " + k, x.apart(k, 'z', 'x'), k == 2);
            Check.due("y and z of " + k, x.apart(k, 'y', 'z'), k == 5);
        }
    }

    private static void noSuchPairs() {
        Check.sentence("pairs: NONE when there is no such assertion.");
        ProofLedger x = Check.reads(TYPED + "$d x y $. l $a t x y $.", 1);
        Check.due("pairs of 0", x.pairs(0), 1);
        Check.due("pairs of 1", x.pairs(1), NONE);
        for (int k : FAR) {
            Check.due("pairs of " + k, x.pairs(k), NONE);
        }
    }

    private static void inEitherOrder() {
        Check.sentence("Whether the variables with these names (told as above) are a mandatory pair of assertion k, in "
            + "either order.");
        ProofLedger x = Check.reads("$c t $. $v ~~~~~~~~ !!!!!!!! $. f $f t ~~~~~~~~ $. g $f t !!!!!!!! $. "
            + "$d ~~~~~~~~ !!!!!!!! $. l $a t ~~~~~~~~ !!!!!!!! $. m $a t ~~~~~~~~ $.", 2);
        long high = Check.code("~~~~~~~~");
        long low = Check.code("!!!!!!!!");
        Check.due("in this order", x.apart(0, high, low), true);
        Check.due("in the other", x.apart(0, low, high), true);
        Check.due("of another assertion", x.apart(1, high, low), false);
    }

    private static void falseForAllElse() {
        Check.sentence("(False for all else.)");
        ProofLedger x = Check.reads(TYPED + "$d x y $. $d x z $. l $a t x y z $. m $a t $.", 2);
        long[] others = {'z', 'y', 't', 'l', 'q', 0, -1, 1, 31, 127, 128, 'x' + 128, 'y' + (1L << 32), 'y' - (1L << 32),
            'y' + (1L << 56), 'y' | 1L << 63, 'y' * 128, 'y' << 8, Long.MIN_VALUE, Long.MAX_VALUE, Check.code("fy")};
        for (long other : others) {
            Check.due("y and " + other, x.apart(0, 'y', other), false);
            Check.due(other + " and y", x.apart(0, other, 'y'), false);
            Check.due(other + " and itself", x.apart(0, other, other), false);
            Check.due("x and " + other, x.apart(0, 'x', other), other == 'y' || other == 'z');
        }
        Check.due("x and itself", x.apart(0, 'x', 'x'), false);
        Check.due("of no assertion", x.apart(2, 'x', 'y'), false);
        for (int k : FAR) {
            Check.due("of " + k, x.apart(k, 'x', 'y'), false);
        }
    }

    private static void stepsBeforeAGap() {
        Check.sentence("How many steps the proof of assertion k has, those from the first ? on not counted.");
        String start = TYPED + "k $a t x y $. l $p t x y $= ";
        String[] proofs = {"fx fy k $.", "? $.", "fx ? $.", "fx fy ? k ? fx $.", "( k ) ABC $.", "( ) ? $.", "( ) A?B $.",
            "( k ) ?ABC $.", "( k ) ABC? $.", "( k ) AZBZC? $.", "( k ) AZDDC? $."};
        int[] due = {3, 0, 1, 2, 3, 0, 1, 0, 3, 3, 4};
        for (int i = 0; i < proofs.length; i++) {
            Check.due("steps of " + proofs[i], Check.reads(start + proofs[i], 2).steps(1), due[i]);
        }
        // A proof that fills the text: no step of it is lost.
        String most = "$c t $. $v x $. f $f t x $. k $a t x $. l $p t x $= ( k ) A " + Check.times(170, "BBBBBBBB") + "$.";
        ProofLedger x = Check.reads(most, 2);
        Check.due("steps of a full text", x.steps(1), 1361);
        Check.due("its uses", x.uses(1, 0), 1360);
        Check.due("its depth", x.depth(1), 1);
    }

    private static void stepsOfAnAxiom() {
        Check.sentence("steps: 0 for an axiom; NONE when there is no such assertion.");
        ProofLedger x = Check.reads("$c a $. h $e a $. l $p a $= h $. m $a a $. n $p a $= h $.", 3);
        Check.due("an axiom behind a theorem", x.steps(1), 0);
        Check.due("the last", x.steps(2), 1);
        Check.due("behind the last", x.steps(3), NONE);
        Check.due("in a text without a proof", Check.reads("$c a $. l $a a $.", 1).steps(0), 0);
        for (int k : FAR) {
            Check.due("steps of " + k, x.steps(k), NONE);
        }
        Check.due("of a faulty one", Check.unended("$c a $. l $a a $. m $p a $= l").steps(1), NONE);
    }

    private static void greatestDepth() {
        Check.sentence("The greatest number of expressions that were on the stack in the proof of assertion k after a step.");
        String start = TYPED + "k0 $a t $. k $a t x y $. l $p t x y $= ";
        String[] proofs = {"fx fy k $.", "k0 fx fy k k $.", "fx fy k k0 k $.", "? fx fx $.", "fx ? fx fx $.",
            "fx fx fx fx k k k ? fx fx $.", "( k ) ABC $.", "( k ) AZDDD?D $.", "( ) ?AAA $."};
        int[] due = {2, 3, 2, 0, 1, 4, 2, 4, 0};
        for (int i = 0; i < proofs.length; i++) {
            Check.due("depth of " + proofs[i], Check.reads(start + proofs[i], 3).depth(2), due[i]);
        }
        Check.due("one that ends high", Check.reads("$c a $. k $a a $. l $p a $= " + Check.times(16, "k") + "? $.", 2)
            .depth(1), 16);
    }

    private static void depthOfAnAxiom() {
        Check.sentence("depth: 0 for an axiom; NONE when there is no such assertion.");
        ProofLedger x = Check.reads("$c a $. h $e a $. l $p a $= h $. m $a a $. n $p a $= h $.", 3);
        Check.due("an axiom behind a theorem", x.depth(1), 0);
        Check.due("the last", x.depth(2), 1);
        Check.due("behind the last", x.depth(3), NONE);
        for (int k : FAR) {
            Check.due("depth of " + k, x.depth(k), NONE);
        }
    }

    private static void usesBeforeAGap() {
        Check.sentence("How many steps of the proof of assertion k are with assertion j (those from the first ? on not "
            + "counted, nor those with what is tagged).");
        String start = TYPED + "k0 $a t $. k $a t x y $. l $p t $= ";
        String[] proofs = {"k0 $.", "k0 k0 k $.", "k0 k0 k k0 k $.", "? k0 $.", "k0 ? k0 k $.", "( k0 ) A $.",
            "( k0 k ) AZCB $.", "( k0 k ) AZCBZDB $.", "( k0 k ) AA?AAB $.", "( k0 k k0 ) ACB $."};
        int[] zero = {1, 2, 3, 0, 1, 1, 1, 1, 2, 2};
        int[] one = {0, 1, 2, 0, 0, 0, 1, 2, 0, 1};
        for (int i = 0; i < proofs.length; i++) {
            ProofLedger x = Check.reads(start + proofs[i], 3);
            Check.due("uses of k0 in " + proofs[i], x.uses(2, 0), zero[i]);
            Check.due("uses of k in " + proofs[i], x.uses(2, 1), one[i]);
            Check.due("uses of itself in " + proofs[i], x.uses(2, 2), 0);
        }
        // As many assertions as there can be.
        ProofLedger most = Check.reads("$c a $. l0 $a a $. " + Check.times(38, "m# $p a $= l0 $.") + "l $p a $= m37 $.", 40);
        Check.due("uses of the last but one", most.uses(39, 38), 1);
        Check.due("uses of the first, not through others", most.uses(39, 0), 0);
    }

    private static void usesOfNone() {
        Check.sentence("uses: 0 for an axiom, or when there is no j; NONE when there is no k.");
        ProofLedger x = Check.reads("$c a $. k $a a $. l $p a $= k $. m $a a $. n $p a $= k $.", 4);
        for (int j = 0; j < 4; j++) {
            Check.due("an axiom's of " + j, x.uses(0, j), 0);
            Check.due("an axiom's behind a theorem of " + j, x.uses(2, j), 0);
            Check.due("a theorem's of " + j, x.uses(3, j), j == 0 ? 1 : 0);
            Check.due("none's of " + j, x.uses(4, j), NONE);
        }
        Check.due("of one behind the last", x.uses(1, 4), 0);
        Check.due("a theorem's of one in the next row", x.uses(1, 80), 0);
        for (int far : FAR) {
            Check.due("a theorem's of " + far, x.uses(1, far), 0);
            Check.due("an axiom's of " + far, x.uses(0, far), 0);
            Check.due("of " + far, x.uses(far, 0), NONE);
            Check.due("of none and none " + far, x.uses(far, far), NONE);
        }
    }

    private static void provedAndSoOn() {
        Check.sentence("Whether assertion k is an axiom, or a theorem whose proof, and the proofs of all that it uses (and so "
            + "on), are complete.");
        ProofLedger x = Check.reads("$c a $. k $a a $. gap $p a $= k ? $. l $p a $= k $. m $p a $= gap $. n $p a $= l m ? $. "
            + "o $p a $= m $. p $p a $= l $. q $p a $= ( gap l ) B $. r $p a $= ( q o ) B $. s $p a $= ? $. t $p a $= ( q ) A $.",
            11);
        boolean[] due = {true, false, true, false, false, false, true, true, false, false, true};
        for (int k = 0; k < due.length; k++) {
            Check.due("proved " + k, x.proved(k), due[k]);
        }
        // What is used without being left on the stack: e takes it as a hypothesis.
        ProofLedger taken = Check.reads("$c a $. k $a a $. gap $p a $= ? $. ${ h $e a $. e $a a $. $} l $p a $= gap e $. "
            + "m $p a $= k e $.", 5);
        Check.due("uses one with a gap", taken.proved(3), false);
        Check.due("uses none with a gap", taken.proved(4), true);
        // As long a chain as there can be.
        String first = "$c a $. l0 $p a $= ? $. k $p a $= l0 $. ";
        StringBuilder chain = new StringBuilder("m0 $p a $= k $. ");
        for (int i = 1; i < 38; i++) {
            chain.append("m").append(i).append(" $p a $= m").append(i - 1).append(" $. ");
        }
        Check.due("the end of a chain with a gap", Check.reads(first + chain, 40).proved(39), false);
        String axiom = "$c a $. l0 $a a $. k $p a $= l0 $. ";
        Check.due("the end of a chain without", Check.reads(axiom + chain, 40).proved(39), true);
    }

    private static void provedOfNone() {
        Check.sentence("proved: false when there is none.");
        ProofLedger x = Check.reads("$c a $. k $a a $.", 1);
        Check.due("proved 0", x.proved(0), true);
        Check.due("proved 1", x.proved(1), false);
        for (int k : FAR) {
            Check.due("proved " + k, x.proved(k), false);
        }
        Check.due("a theorem without an end", Check.unended("$c a $. k $a a $. l $p a $= k").proved(1), false);
        Check.due("an axiom without an end", Check.unended("$c a $. k $a a").proved(0), false);
    }
}
