/**
 * The boundary cases of promise 4, read, in proofs: the stack, what must match, what must stay apart, ends and
 * gaps. Each method holds to one sentence of the document.
 */
public final class ProofBoundaryTest {
    private static final int APART = ProofLedger.APART;
    private static final int MATCH = ProofLedger.MATCH;
    private static final int PROOF = ProofLedger.PROOF;
    private static final int ROOM = ProofLedger.ROOM;
    private static final int STACK = ProofLedger.STACK;
    // Assertions with 0 to 3 mandatory hypotheses.
    private static final String START = "$c a b $. $v x y z $. fx $f a x $. fy $f a y $. fz $f a z $. k0 $a a $. "
        + "k1 $a a b x $. k2 $a a x y $. k3 $a a x y z $. ";

    private ProofBoundaryTest() {
    }

    public static void main(String[] args) {
        emptyAtFirst();
        sixteenExpressions();
        fewerThanItTakes();
        lowestForTheFirst();
        beginsWithItsType();
        nothingInPlaceOfAVariable();
        sameAsTheHypothesis();
        apartOrNot();
        firstAndLastNames();
        apartAtTheTheorem();
        notTheSame();
        twentyFourSymbols();
        fullStack();
        lookedUpFirst();
        orderOfFaults();
        oneAtTheEnd();
        theTheoremsOwn();
        noWords();
        ownLabel();
        gaps();
        stepsOfNormalProofs();
        Check.end();
    }

    private static void emptyAtFirst() {
        Check.sentence("A PROOF makes a STACK of expressions, at first empty.");
        Check.faultAtLast(START + "l $p a b x $= k1", STACK);
        // What an earlier proof had on its stack, with or without an end, is gone.
        Check.faultAtLast(START + "l $p a x $= fx $. m $p a b x $= k1", STACK);
        Check.faultAtLast(START + "l $p a x $= fx fx fx ? $. m $p a b x $= k1", STACK);
        Check.faultAtLast(START + "l $p a x $= fx ? $. m $p a x $= $.", STACK);
    }

    private static void sixteenExpressions() {
        Check.sentence("At most 16: ROOM.");
        Check.faultAtLast(START + "l $p a x $= " + Check.times(16, "fx") + "$.", STACK);
        Check.faultAtLast(START + "l $p a x $= " + Check.times(17, "fx"), ROOM);
        Check.faultAtLast(START + "l $p a $= " + Check.times(16, "k0") + "$.", STACK);
        Check.faultAtLast(START + "l $p a $= " + Check.times(17, "k0"), ROOM);
        // 16 on the stack, joined to one: the sixteenth is held in full.
        ProofLedger x = Check.reads(START + "l $p a " + Check.times(16, "x") + "$= " + Check.times(16, "fx")
            + Check.times(15, "k2") + "$.", 5);
        Check.due("depth", x.depth(4), 16);
        Check.due("steps", x.steps(4), 31);
        ProofLedger all = Check.reads("$c a $. " + Check.times(16, "h# $e a $.") + "k $a a $. l $p a $= "
            + Check.times(16, "h#") + "k $.", 2);
        Check.due("all 16 are taken off", all.depth(1), 16);
    }

    private static void fewerThanItTakes() {
        Check.sentence("A step with an assertion that has n mandatory hypotheses takes the n latest expressions off: "
            + "STACK when there are fewer.");
        for (int n = 0; n <= 3; n++) {
            String start = START + "l $p b $= ";
            for (int has = 0; has <= 4; has++) {
                String steps = start + Check.times(has, "fx") + "k" + n;
                if (has < n) {
                    Check.faultAtLast(steps, STACK);
                } else {
                    Check.unended(steps);
                }
            }
        }
        // One with more than the stack can hold is never to be used.
        String many = "$c a $. ${ " + Check.times(17, "h# $e a $.") + "k $a a $. l $p a $= ";
        Check.faultAtLast(many + Check.times(16, "h0") + "k", STACK);
    }

    private static void lowestForTheFirst() {
        Check.sentence("The lowest for the first of them.");
        Check.reads(START + "l $p a x y z $= fx fy fz k3 $.", 5);
        Check.faultAtLast(START + "l $p a x y z $= fz fy fx k3 $.", MATCH);
        Check.reads(START + "l $p a z x x y $= fz fx fx fy k3 k2 $.", 5);
        // The first is the one that was declared first, not the one that occurs first.
        Check.reads(START + "k $a a y x $. l $p a y x $= fx fy k $.", 6);
        Check.faultAtLast(START + "k $a a y x $. l $p a y x $= fy fx k $.", MATCH);
    }

    private static void beginsWithItsType() {
        Check.sentence("For a floating one the expression must begin with its type (MATCH).");
        Check.reads(START + "o $a b x $. l $p b x $= fx o $.", 6);
        Check.faultAtLast(START + "o $a b x $. l $p b x $= fx o o", MATCH);
        Check.faultAtLast(START + "o $a b a x $. l $p b x $= fx o k1", MATCH);
        Check.faultAtLast(START + "o $a b $. l $p a b x $= o k1", MATCH);
        // The first, the second and the last of three.
        String start = START + "o $a b x $. l $p a x y z $= ";
        Check.faultAtLast(start + "fx o fy fz k3", MATCH);
        Check.faultAtLast(start + "fx fy o fz k3", MATCH);
        Check.faultAtLast(start + "fx fy fz o k3", MATCH);
    }

    private static void nothingInPlaceOfAVariable() {
        Check.sentence("What is behind that (perhaps nothing) is put in place of its variable.");
        Check.reads(START + "l $p a b $= k0 k1 $.", 5);
        Check.reads(START + "l $p a $= k0 k0 k0 k3 $.", 5);
        Check.reads(START + "l $p a x $= k0 fx k0 k3 $.", 5);
        Check.reads(START + "${ e $e b x x b y $. k $a b x $. $} o $a b b $. l $p b $= k0 k0 o k $.", 7);
        Check.faultAtLast(START + "l $p a x $= k0 k0 k0 k3 $.", MATCH);
    }

    private static void sameAsTheHypothesis() {
        Check.sentence("For an essential one the expression must be the same as the hypothesis with its variables "
            + "replaced (MATCH).");
        String start = START + "${ e $e b x a y $. k $a b $. $} ";
        String[] right = {"b x a y", "b y a x", "b x a x", "b z y a x y"};
        String[] rightSteps = {"fx fy", "fy fx", "fx fx", "fz fy k2 fx fy k2"};
        for (int i = 0; i < right.length; i++) {
            Check.reads(start + "h $e " + right[i] + " $. l $p b $= " + rightSteps[i] + " h k $.", 6);
        }
        String[] wrong = {"b", "b x", "b x a", "b x a y y", "b x a x", "b y a y", "a x a y", "b x b y", "b x y", "b a y"};
        for (String expression : wrong) {
            Check.faultAtLast(start + "h $e " + expression + " $. l $p b $= fx fy h k", MATCH);
        }
        // 24 symbols are the same, 25 are of no expression.
        String long24 = START + "${ e $e a x y $. k $a b $. $} n $a a " + Check.times(11, "x") + "$. m $a a "
            + Check.times(12, "x") + "$. h $e a " + Check.times(23, "x") + "$. l $p b $= ";
        Check.reads(long24 + "fx n fx m h k $.", 8);
        Check.faultAtLast(long24 + "fx m fx m h k", MATCH);
    }

    private static void apartOrNot() {
        Check.sentence("Every variable of what replaces the one must be apart from every variable of what replaces the "
            + "other: otherwise APART.");
        String start = START + "${ $d x y $. n $a a x y $. $} ";
        Check.faultAtLast(start + "l $p a x y $= fx fy n", APART);
        Check.reads(start + "$d x y $. l $p a x y $= fx fy n $.", 6);
        Check.reads(start + "$d y x $. l $p a x y $= fx fy n $.", 6);
        Check.reads(start + "$d x y $. l $p a y x $= fy fx n $.", 6);
        // All of 2 and 1: with each pair that is missing it is APART.
        String[] pairs = {"$d x z $. ", "$d y z $. "};
        Check.reads(start + pairs[0] + pairs[1] + "l $p a x y z $= fx fy k2 fz n $.", 6);
        Check.reads(start + pairs[0] + pairs[1] + "l $p a z x y $= fz fx fy k2 n $.", 6);
        for (String pair : pairs) {
            Check.faultAtLast(start + pair + "l $p a x y z $= fx fy k2 fz n", APART);
            Check.faultAtLast(start + pair + "$d x y $. l $p a z x y $= fz fx fy k2 n", APART);
        }
        // No variable is apart from all.
        Check.reads(start + "l $p a x $= fx k0 n $.", 6);
        Check.reads(start + "l $p a x $= k0 fx n $.", 6);
        Check.reads(start + "l $p a b b $= k0 k1 k0 k1 n $.", 6);
        Check.reads(start + "l $p a b x $= k0 k1 fx n $.", 6);
        // The last of several pairs.
        String three = START + "${ $d x y z $. n $a a x y z $. $} ";
        Check.reads(three + "$d x y z $. l $p a x y z $= fx fy fz n $.", 6);
        Check.faultAtLast(three + "$d x y $. $d x z $. l $p a x y z $= fx fy fz n", APART);
        Check.faultAtLast(three + "$d x y $. $d y z $. l $p a x y z $= fx fy fz n", APART);
        Check.faultAtLast(three + "$d x z $. $d y z $. l $p a x y z $= fx fy fz n", APART);
    }

    private static void firstAndLastNames() {
        Check.sentence("Names that were declared are at most 60: the first of them and the last can be apart.");
        // With l and m as the last there are 60 names.
        String start = "$v x $. $c t " + Check.times(53, "c#") + "$. fx $f t x $. $v y $. fy $f t y $. ";
        String axiom = "${ $d x y $. l $a t x y $. $} ";
        ProofLedger x = Check.reads(start + axiom + "$d y x $. m $p t y x $= fy fx l $.", 2);
        for (int k = 0; k < 2; k++) {
            Check.due("pairs of " + k, x.pairs(k), 1);
            Check.due("apart of " + k, x.apart(k, 'x', 'y'), true);
            Check.due("first hypothesis of " + k, x.hypothesis(k, 0), Check.code("fx"));
            Check.due("last hypothesis of " + k, x.hypothesis(k, 1), Check.code("fy"));
        }
        Check.faultAtLast(start + axiom + "$d y x $. m $p t y x $= fy fx l $. n", ROOM);
        Check.faultAtLast(start + axiom + "m $p t x y $= fx fy l", APART);
        Check.faultAtLast(start + axiom + "m $p t y x $= fy fx l", APART);
        Check.faultAtLast(start + axiom + "$d x y $. m $p t x x $= fx fx l", APART);
        Check.faultAtLast(start + axiom + "$d x y $. m $p t y y $= fy fy l", APART);
    }

    private static void apartAtTheTheorem() {
        Check.sentence("As things are active at the theorem.");
        String start = START + "${ $d x y $. n $a a x y $. $} ";
        Check.faultAtLast(start + "${ $d x y $. $} l $p a x y $= fx fy n", APART);
        Check.faultAtLast(start + "${ ${ $d x y $. $} l $p a x y $= fx fy n", APART);
        Check.reads(start + "${ $d x y $. ${ l $p a x y $= fx fy n $. $} $}", 6);
        Check.faultAtLast(start + "${ $d x y $. l $p a x y $= fx fy n $. $} m $p a x y $= fx fy l", APART);
        // Variables of the proof alone must be apart, too, though their pair is not mandatory.
        String unused = start + "${ e $e a x y $. k $a a $. $} ";
        Check.faultAtLast(unused + "l $p a $= fx fy fx fy n", APART);
        ProofLedger x = Check.reads(unused + "$d x y $. l $p a $= fx fy fx fy n k $.", 7);
        Check.due("no mandatory pair", x.pairs(6), 0);
    }

    private static void notTheSame() {
        Check.sentence("And not the same: otherwise APART.");
        String start = START + "${ $d x y $. n $a a x y $. $} $d x y z $. ";
        Check.faultAtLast(start + "l $p a x x $= fx fx n", APART);
        Check.faultAtLast(start + "l $p a x y x $= fx fy k2 fx n", APART);
        Check.faultAtLast(start + "l $p a x y z y $= fx fy k2 fz fy k2 n", APART);
        Check.reads(start + "l $p a x y z $= fx fy k2 fz n $.", 6);
    }

    private static void twentyFourSymbols() {
        Check.sentence("Then the assertion with its variables replaced is put on the stack: ROOM when it has more than "
            + "24 symbols.");
        String start = START + "n $a a " + Check.times(11, "x") + "$. m $a a " + Check.times(12, "x") + "$. ";
        Check.reads(start + "l $p a " + Check.times(23, "x") + "$= fx n fx m k2 $.", 7);
        Check.faultAtLast(start + "l $p a x $= fx m fx m k2", ROOM);
        Check.reads(start + "l $p a b " + Check.times(22, "x") + "$= fx n fx n k2 k1 $.", 7);
        Check.faultAtLast(start + "l $p a b x $= fx n fx m k2 k1", ROOM);
        // The one that is too much is a constant.
        String behind = START + "n $a a " + Check.times(22, "x") + "$. m $a a " + Check.times(23, "x") + "$. o $a a x b $. ";
        Check.reads(behind + "l $p a " + Check.times(22, "x") + "b $= fx n o $.", 8);
        Check.faultAtLast(behind + "l $p a x b $= fx m o", ROOM);
        // 1 + 12 * 2 by one variable, and 1 + 23 * 23.
        Check.faultAtLast(start + "l $p a x $= fx fy k2 m", ROOM);
        Check.faultAtLast(START + "n $a a " + Check.times(23, "x") + "$. l $p a x $= fx n n", ROOM);
        Check.reads(START + "n $a a " + Check.times(23, "x") + "$. l $p a " + Check.times(23, "x") + "$= fx n $.", 6);
        Check.reads(START + "n $a a " + Check.times(23, "x") + "$. l $p a $= k0 n $.", 6);
    }

    private static void fullStack() {
        Check.sentence("Or the stack is full.");
        String full = START + "l $p a x $= " + Check.times(16, "fx");
        Check.faultAtLast(full + "k0", ROOM);
        Check.faultAtLast(full + "fx", ROOM);
        // As one is taken off, one can be put on.
        Check.unended(full + "k1");
        Check.unended(full + "k2 k0");
        Check.faultAtLast(full + "k2 k0 k0", ROOM);
        Check.unended(full + "k3 k0 k0");
    }

    private static void lookedUpFirst() {
        Check.sentence("A step is looked up (PROOF) before anything else of it is looked at.");
        String full = START + "${ g $e a $. $} l $p a x $= " + Check.times(16, "fx");
        String[] none = {"q", "l", "g", "a", "x", ")", "("};
        for (String label : none) {
            Check.faultAtLast(full + label, PROOF);
        }
    }

    private static void orderOfFaults() {
        Check.sentence("STACK; in order MATCH; then APART; then ROOM.");
        String start = START + "${ $d x y $. e $e a x $. n $a a " + Check.times(23, "y") + "$. $} ";
        // The hypotheses: fx, fy, e.
        Check.faultAtLast(start + "o $a b x $. l $p a x $= fx o fx n", STACK);
        Check.faultAtLast(start + "l $p a x $= fx fx fy n", MATCH);
        Check.faultAtLast(start + "l $p a x $= fx fx fx n", APART);
        Check.faultAtLast(start + "l $p a x $= fx fx fx k2 fx n", APART);
        Check.faultAtLast(start + "$d x y $. l $p a x $= fx fy fy k2 fx n", ROOM);
        Check.unended(start + "$d x y $. l $p a x $= fx fy fx n");
    }

    private static void oneAtTheEnd() {
        Check.sentence("At the end there must be one expression on the stack (STACK), met at the $.");
        Check.faultAtLast(START + "l $p a x $= $.", STACK);
        Check.reads(START + "l $p a x $= fx $.", 5);
        Check.faultAtLast(START + "l $p a x $= fx fx $.", STACK);
        Check.faultAtLast(START + "l $p a x $= fx fx fx k2 $.", STACK);
        // STACK before MATCH.
        Check.faultAtLast(START + "l $p a x $= fy fz $.", STACK);
    }

    private static void theTheoremsOwn() {
        Check.sentence("The theorem's own (MATCH), met at the $.");
        String[] wrong = {"b x", "a y", "a", "a x x", "a x b", "a b x"};
        for (String expression : wrong) {
            Check.faultAtLast(START + "l $p " + expression + " $= fx $.", MATCH);
            Check.unended(START + "l $p " + expression + " $= fx");
        }
        Check.reads(START + "l $p a $= k0 $.", 5);
        Check.faultAtLast(START + "l $p b $= k0 $.", MATCH);
        String longest = START + "n $a a " + Check.times(23, "x") + "$. l $p a " + Check.times(22, "x");
        Check.reads(longest + "x $= fx n $.", 6);
        Check.faultAtLast(longest + "y $= fx n $.", MATCH);
        Check.faultAtLast(longest + "$= fx n $.", MATCH);
    }

    private static void noWords() {
        Check.sentence("So a proof of no words is STACK.");
        Check.faultAt("$c a $. l $p a $= $.", STACK, 7);
        Check.faultAt("$c a $. l $p a $= $( ? $) $.", STACK, 10);
        Check.faultAt("$c a $. h $e a $. l $p a $= $.", STACK, 11);
    }

    private static void ownLabel() {
        Check.sentence("The theorem's own label is none yet in its proof.");
        Check.faultAtLast(START + "l $p a x $= l", PROOF);
        Check.faultAtLast(START + "l $p a x $= fx l", PROOF);
        Check.faultAtLast(START + "l $p a x $= ? l", PROOF);
        Check.faultAtLast(START + "l $p a x $= ( l", PROOF);
        Check.reads(START + "l $p a x $= fx $. m $p a x $= fx l $.", 6);
    }

    private static void gaps() {
        Check.sentence("From the first ? on steps are only looked up, and the end is not looked at.");
        String start = START + "${ $d x y $. n $a a x y $. $} o $a b x $. l $p a x $= ";
        String[] steps = {"?", "? ?", "fx ?", "fx fx ?", "fy ?", "? fx fx", "? k1", "? k3 k3", "fx o ? k1",
            "? fx fx n", "fx ? n", "? " + Check.times(40, "fx"), Check.times(16, "fx") + "? fx k0"};
        for (String proof : steps) {
            ProofLedger x = Check.reads(start + proof + " $.", 7);
            Check.due("incomplete", x.count(6), 1);
            Check.due("not proved", x.proved(6), false);
        }
        String[] none = {"q", "l", "x", "a", "??", ")"};
        for (String label : none) {
            Check.faultAtLast(start + "? " + label, PROOF);
        }
        // Faults before the first ? are met.
        Check.faultAtLast(start + "k1", STACK);
        Check.faultAtLast(start + "fx o k1", MATCH);
        Check.faultAtLast(start + "fx fx n", APART);
        Check.faultAtLast(start + Check.times(17, "fx"), ROOM);
        // The next proof is looked at again.
        Check.faultAtLast(start + "? $. m $p a x $= fy $.", MATCH);
        Check.faultAtLast(start + "? $. m $p a x $= k1", STACK);
        Check.due("one of two", Check.reads(start + "? $. m $p a x $= fx $.", 8).count(6), 1);
    }

    private static void stepsOfNormalProofs() {
        Check.sentence("Each a step: ? or the label of an active hypothesis or of an earlier assertion; PROOF for "
            + "another name.");
        String start = START + "${ kw $a a $. fw $e a $. $} h $e a x $. l $p a x $= ";
        String[] right = {"fx", "h", "k0", "kw", "?"};
        for (String label : right) {
            Check.unended(start + label);
        }
        String[] wrong = {"fw", "l", "q", "a", "b", "x", "??", "?A", "A", ")", "f", "fxx", "FX"};
        for (String label : wrong) {
            Check.faultAtLast(start + label, PROOF);
            Check.faultAtLast(start + "fx " + label, PROOF);
        }
        // ( begins a compressed proof only as the first word.
        Check.unended(start + "(");
        Check.faultAtLast(start + "fx (", PROOF);
        Check.faultAtLast(start + "? (", PROOF);
        Check.reads("$c a $. ( $a a $. ) $a a $. l $p a $= ) $. m $p a $= ? ( $. n $p a $= ( ( ) A $.", 5);
    }
}
