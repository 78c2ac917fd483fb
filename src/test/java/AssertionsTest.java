/** Promises 7 to 11: label, symbol, hypothesis, pairs and apart of axioms and theorems. */
public final class AssertionsTest {
    private static final String TYPED = "$c w t = $. $v x y z $. wx $f w x $. wy $f w y $. wz $f w z $. ";

    private AssertionsTest() {
    }

    public static void main(String[] args) {
        labels();
        symbols();
        hypothesesInOrder();
        hypothesesOfScopes();
        pairs();
        pairsOfScopes();
        apart();
        Check.end();
    }

    private static void labels() {
        ProofLedger x = Check.reads("$c a $. l $a a $. ${ h $e a $. ~~~~~~~~ $a a $. $} !1 $p a $= l $.", 3);
        Check.due("one character", x.label(0), 'l');
        Check.due("eight characters", x.label(1), Check.code("~~~~~~~~"));
        Check.due("as digits to the base 128", x.label(2), 33 * 128 + 49);
        Check.due("none", x.label(3), ProofLedger.NONE);
        Check.due("none below", x.label(-1), ProofLedger.NONE);
        Check.due("before a fault", Check.reading("$c a $. l $a a $. l $a a $.").label(0), 'l');
    }

    private static void symbols() {
        ProofLedger x = Check.reads(TYPED + "l $a t = x y = $. m $a w $. n $p w z $= wz $.", 3);
        String[] symbols = {"t", "=", "x", "y", "="};
        for (int i = 0; i < symbols.length; i++) {
            Check.due("symbol " + i, x.symbol(0, i), Check.code(symbols[i]));
        }
        Check.due("symbol 5", x.symbol(0, 5), ProofLedger.NONE);
        Check.due("symbol -1", x.symbol(0, -1), ProofLedger.NONE);
        Check.due("one symbol", x.symbol(1, 0), 'w');
        Check.due("no more", x.symbol(1, 1), ProofLedger.NONE);
        Check.due("a theorem's", x.symbol(2, 1), 'z');
        Check.due("no assertion", x.symbol(3, 0), ProofLedger.NONE);
        Check.due("no assertion below", x.symbol(-1, 0), ProofLedger.NONE);
    }

    private static void hypothesesInOrder() {
        ProofLedger x = Check.reads("$c w t $. $v x y z u $. e1 $e t $. wz $f w z $. wx $f w x $. e2 $e t x $. "
            + "wy $f w y $. wu $f w u $. l $a t z y $. m $p t z y $= ? $.", 2);
        for (int k = 0; k < 2; k++) {
            hypotheses(x, k, "e1", "wz", "wx", "e2", "wy");
        }
        Check.due("no assertion", x.hypothesis(2, 0), ProofLedger.NONE);
        Check.due("no assertion below", x.hypothesis(-1, 0), ProofLedger.NONE);
        hypotheses(Check.reads(TYPED + "l $a t = $.", 1), 0);
        hypotheses(Check.reads(TYPED + "l $a t = z x $.", 1), 0, "wx", "wz");
    }

    private static void hypothesesOfScopes() {
        ProofLedger x = Check.reads(TYPED + "${ e $e t y $. l $a t x $. ${ f $e t z $. m $a t $. $} n $a t $. $} "
            + "o $a t x $. p $p t $= ? $.", 5);
        hypotheses(x, 0, "wx", "wy", "e");
        hypotheses(x, 1, "wy", "wz", "e", "f");
        hypotheses(x, 2, "wy", "e");
        hypotheses(x, 3, "wx");
        hypotheses(x, 4);
    }

    private static void hypotheses(ProofLedger x, int k, String... labels) {
        for (int i = 0; i < labels.length; i++) {
            Check.due("hypothesis " + i + " of " + k, x.hypothesis(k, i), Check.code(labels[i]));
        }
        Check.due("no further hypothesis of " + k, x.hypothesis(k, labels.length), ProofLedger.NONE);
        Check.due("no hypothesis -1 of " + k, x.hypothesis(k, -1), ProofLedger.NONE);
    }

    private static void pairs() {
        ProofLedger x = Check.reads(TYPED + "n $a t x y z $. $d x y $. $d y x $. $d x y $. l $a t x y $. "
            + "$d x y z $. m $a t x y z $. o $a t x z $. p $a t x $. q $a t $. r $p t x y z $= ? $.", 7);
        int[] due = {0, 1, 3, 1, 0, 0, 3};
        for (int k = 0; k < due.length; k++) {
            Check.due("pairs of " + k, x.pairs(k), due[k]);
        }
        Check.due("no assertion", x.pairs(7), ProofLedger.NONE);
        Check.due("no assertion below", x.pairs(-1), ProofLedger.NONE);
        ProofLedger y = Check.reads(TYPED + "$d x y $. e $e t y $. l $a t x $.", 1);
        Check.due("a variable of an essential one", y.pairs(0), 1);
    }

    private static void pairsOfScopes() {
        ProofLedger x = Check.reads(TYPED + "$d x y $. ${ $d y z $. l $a t x y z $. ${ $d x y z $. m $a t x y z $. $} "
            + "n $a t x y z $. $} o $a t x y z $. ${ $d x z $. $} p $a t x y z $.", 5);
        int[] due = {2, 3, 2, 1, 1};
        for (int k = 0; k < due.length; k++) {
            Check.due("pairs of " + k, x.pairs(k), due[k]);
            Check.due("x z apart in " + k, x.apart(k, 'x', 'z'), k == 1);
            Check.due("z y apart in " + k, x.apart(k, 'z', 'y'), k < 3);
            Check.due("y x apart in " + k, x.apart(k, 'y', 'x'), true);
        }
        ProofLedger y = Check.reads("$c w $. ${ $v x y $. f $f w x $. g $f w y $. $d x y $. l $a w x y $. $} "
            + "$v x y $. h $f w x $. i $f w y $. m $a w x y $.", 2);
        Check.due("pairs of the former variables", y.pairs(0), 1);
        Check.due("pairs of those of the same names", y.pairs(1), 0);
    }

    private static void apart() {
        ProofLedger x = Check.reads("$c w $. $v xx y z $. f $f w xx $. g $f w y $. h $f w z $. $d xx y z $. "
            + "l $a w xx y $. m $p w y xx $= ? $.", 2);
        long xx = Check.code("xx");
        for (int k = 0; k < 2; k++) {
            Check.due("in order", x.apart(k, xx, 'y'), true);
            Check.due("the other way round", x.apart(k, 'y', xx), true);
            Check.due("the same", x.apart(k, xx, xx), false);
            Check.due("not mandatory", x.apart(k, xx, 'z'), false);
            Check.due("not mandatory, the other way round", x.apart(k, 'z', 'y'), false);
            Check.due("a constant", x.apart(k, xx, 'w'), false);
            Check.due("a label", x.apart(k, xx, 'g'), false);
            Check.due("no name", x.apart(k, xx, 0), false);
            Check.due("negative", x.apart(k, -1, -1), false);
            Check.due("cut to an int it were a name", x.apart(k, xx, 'y' + (1L << 32)), false);
        }
        Check.due("no assertion", x.apart(2, xx, 'y'), false);
        Check.due("no assertion below", x.apart(-1, xx, 'y'), false);
        ProofLedger long8 = Check.reads("$c w $. $v abcdefgh bbcdefgh $. f $f w abcdefgh $. g $f w bbcdefgh $. "
            + "$d abcdefgh bbcdefgh $. l $a w abcdefgh bbcdefgh $.", 1);
        Check.due("long names", long8.apart(0, Check.code("bbcdefgh"), Check.code("abcdefgh")), true);
    }
}
