/** Promises 4 and 12 to 15: normal proofs, and what steps, depth, uses and proved tell of them. */
public final class ProofsTest {
    private static final int PROOF = ProofLedger.PROOF;
    private static final int STACK = ProofLedger.STACK;
    private static final int MATCH = ProofLedger.MATCH;
    private static final int APART = ProofLedger.APART;
    private static final String LOGIC = "$c > w t $. $v p q r $. wp $f w p $. wq $f w q $. wr $f w r $. "
        + "wi $a w > p q $. a1 $a t > p > q p $. ${ mi $e t p $. ma $e t > p q $. mp $a t q $. $} ";
    private static final String SETS = "$c w t s $. $v x y z u $. wx $f w x $. wy $f w y $. wz $f w z $. wu $f w u $. "
        + "${ $d x y $. ne $a t x y $. $} two $a w x y $. no $a w $. c $a w s $. ";

    private ProofsTest() {
    }

    public static void main(String[] args) {
        lookedUp();
        stack();
        matchOfFloating();
        matchOfEssential();
        emptyReplacement();
        ends();
        apart();
        orderOfFaults();
        incomplete();
        told();
        proved();
        Check.end();
    }

    private static void lookedUp() {
        Check.faultAtLast(LOGIC + "l $p w p $= q1", PROOF);
        Check.faultAtLast(LOGIC + "l $p w p $= wp p", PROOF);
        Check.faultAtLast(LOGIC + "l $p w p $= w", PROOF);
        Check.faultAtLast(LOGIC + "l $p w p $= l", PROOF);
        Check.faultAtLast(LOGIC + "l $p w p $= mi", PROOF);
        Check.faultAtLast(LOGIC + "l $p w p $= )", PROOF);
        Check.faultAtLast(LOGIC + "l $p w p $= wp (", PROOF);
        Check.faultAtLast(LOGIC + "l $p w p $= ??", PROOF);
        Check.reads(LOGIC + "l $p w p $= wp $.", 4);
        Check.reads(LOGIC + "${ h $e t p $. l $p t p $= h $. $}", 4);
        Check.reads(LOGIC + "${ $v z $. wz $f w z $. l $a w z $. $} m $p w p $= wp l $.", 5);
    }

    private static void stack() {
        Check.faultAtLast(LOGIC + "l $p w p $= wi", STACK);
        Check.faultAtLast(LOGIC + "l $p w p $= wp wi", STACK);
        Check.faultAtLast(LOGIC + "l $p t p $= wp wp wp mp", STACK);
        // The latest are taken, the lowest for the first.
        Check.reads(LOGIC + "l $p w > q p $= wq wp wi $.", 4);
        Check.faultAtLast(LOGIC + "l $p w > q p $= wp wq wi $.", MATCH);
        Check.reads(LOGIC + "l $p w > r > q p $= wr wq wp wi wi $.", 4);
    }

    private static void matchOfFloating() {
        Check.faultAtLast(LOGIC + "l $p w p $= wp wp a1 wp wi", MATCH);
        Check.faultAtLast(LOGIC + "l $p w p $= wp wp wp a1 wi", MATCH);
        Check.faultAtLast("$c a b $. $v x $. f $f a x $. l $a b x $. m $a a x $. n $p a x $= f l m", MATCH);
        Check.reads("$c a b $. $v x $. f $f a x $. l $a b x $. m $a a x $. n $p b x $= f m l $.", 3);
    }

    private static void matchOfEssential() {
        String start = LOGIC + "${ h $e t p $. g $e t > p q $. k $e t > q p $. i $e w p $. j $e t > p q q $. ";
        Check.reads(start + "l $p t q $= wp wq h g mp $. $}", 4);
        Check.faultAtLast(start + "l $p t q $= wp wq h k mp", MATCH);
        Check.faultAtLast(start + "l $p t q $= wp wq g h mp", MATCH);
        Check.faultAtLast(start + "l $p t q $= wq wp h g mp", MATCH);
        Check.faultAtLast(start + "l $p t q $= wp wq i g mp", MATCH);
        Check.faultAtLast(start + "l $p t q $= wp wq h j mp", MATCH);
        Check.faultAtLast(start + "l $p t q $= wp wq h h mp", MATCH);
        Check.faultAtLast(start + "l $p t q $= wp wr h g mp", MATCH);
        // A hypothesis that would have more than 24 symbols matches nothing.
        Check.faultAtLast("$c a $. $v x $. f $f a x $. d $a a x x x x x $. ${ e $e a x x x x x $. l $a a x $. $} "
            + "m $p a x $= f d f d l", MATCH);
        Check.faultAtLast("$c a $. $v x $. f $f a x $. d $a a x x x x x $. ${ e $e a x x x x x $. l $a a x $. $} "
            + "g $e a x $. m $p a x $= f d g l", MATCH);
    }

    private static void emptyReplacement() {
        Check.reads(SETS + "l $p w $= no no two $.", 5);
        Check.reads(SETS + "l $p w x $= wx no two $.", 5);
        Check.reads(SETS + "l $p w x $= no wx two $.", 5);
        Check.faultAtLast(SETS + "l $p w x $= no no two $.", MATCH);
        Check.reads("$c a b $. $v x $. f $f a x $. n $a a $. ${ e $e a x b x $. l $a b $. $} o $a a b $. "
            + "m $p b $= n o l $.", 4);
    }

    private static void ends() {
        Check.faultAtLast(LOGIC + "l $p w p $= $.", STACK);
        Check.faultAtLast(LOGIC + "l $p w p $= wp wp $.", STACK);
        Check.faultAtLast(LOGIC + "l $p w p $= wq $.", MATCH);
        Check.faultAtLast(LOGIC + "l $p w p p $= wp $.", MATCH);
        Check.faultAtLast(LOGIC + "l $p w $= wp $.", MATCH);
        Check.faultAtLast(LOGIC + "l $p t p $= wp $.", MATCH);
        Check.due("not declared", Check.faultAtLast(LOGIC + "l $p t p $= wp $.", MATCH).count(5), 0);
    }

    private static void apart() {
        Check.reads(SETS + "$d x y $. l $p t x y $= wx wy ne $.", 5);
        Check.reads(SETS + "$d x y $. l $p t y x $= wy wx ne $.", 5);
        Check.faultAtLast(SETS + "l $p t x y $= wx wy ne", APART);
        Check.faultAtLast(SETS + "${ $d x y $. $} l $p t x y $= wx wy ne", APART);
        Check.faultAtLast(SETS + "$d x y $. l $p t x x $= wx wx ne", APART);
        Check.faultAtLast(SETS + "$d x z $. l $p t x y $= wx wy ne", APART);
        // Every variable of the one from every variable of the other.
        String sum = "l $p t x y z u $= wx wy two wz wu two ne";
        Check.reads(SETS + "$d x z $. $d x u $. $d y z $. $d y u $. " + sum + " $.", 5);
        Check.faultAtLast(SETS + "$d x z $. $d x u $. $d y z $. " + sum, APART);
        Check.faultAtLast(SETS + "$d x u $. $d y z $. $d y u $. " + sum, APART);
        Check.faultAtLast(SETS + "$d x y z $. l $p t x y z x $= wx wy two wz wx two ne", APART);
        Check.reads(SETS + "$d x z $. $d y z $. l $p t z x y $= wz wx wy two ne $.", 5);
        Check.reads(SETS + "$d z x $. $d z y $. l $p t z x y $= wz wx wy two ne $.", 5);
        // The very first name is a variable like others.
        String first = "$v x y z $. $c t $. wx $f t x $. wy $f t y $. wz $f t z $. ${ $d x y $. ne $a t x y $. $} ";
        Check.faultAtLast(first + "l $p t x y $= wx wy ne", APART);
        Check.due("its pair", Check.reads(first + "$d z x $. l $p t x z $= wx wz ne $.", 2).apart(1, 'x', 'z'), true);
        // Constants and nothing are apart from everything.
        Check.reads(SETS + "l $p t s x $= c wx ne $.", 5);
        Check.reads(SETS + "l $p t s s $= c c ne $.", 5);
        Check.reads(SETS + "l $p t x $= wx no ne $.", 5);
        // Pairs of variables that are not mandatory count.
        Check.reads(SETS + "${ $d x y $. e $e t x y $. d $a t $. $} ${ $d z u $. l $p t $= wz wu wz wu ne d $. $}", 6);
        Check.faultAtLast(SETS + "${ $d x y $. e $e t x y $. d $a t $. $} l $p t $= wz wu wz wu ne", APART);
        Check.faultAtLast(SETS + "${ $d z u $. l $p t z u $= wz wu ne $. $} m $p t z u $= wz wu l", APART);
    }

    private static void orderOfFaults() {
        // MATCH before APART, APART before ROOM.
        Check.faultAtLast("$c w t $. $v x y $. wx $f w x $. wy $f w y $. ${ $d x y $. e $e t x $. l $a t y $. $} "
            + "g $e t y $. m $p t x $= wx wx g l", MATCH);
        Check.faultAtLast("$c w t $. $v x y $. wx $f w x $. wy $f w y $. ${ $d x y $. e $e t x $. l $a t y $. $} "
            + "g $e t x $. m $p t x $= wx wx g l", APART);
        String large = "$c w $. $v x y $. wx $f w x $. wy $f w y $. b $a w x x x x x $. "
            + "${ $d x y $. l $a w x x x x y $. $} ";
        Check.faultAtLast(large + "m $p w x $= wx b wx b l", APART);
        Check.faultAtLast(large + "$d x y $. m $p w x $= wx b wy b l", ProofLedger.ROOM);
    }

    private static void incomplete() {
        ProofLedger x = Check.reads(LOGIC + "l $p w p $= ? $. m $p w p $= wp wq ? wi wi mp wp ? $. "
            + "n $p t p $= wq ? $. o $p w p $= wp ? $.", 7);
        Check.due("incomplete ones", x.count(6), 4);
        Check.due("theorems", x.count(5), 4);
        told(x, 3, 0, 0);
        told(x, 4, 2, 2);
        told(x, 5, 1, 1);
        Check.due("uses behind a ?", x.uses(4, 0), 0);
        Check.due("the first assertion", Check.reads("$c a $. l $p a $= ? $.", 1).count(6), 1);
        Check.faultAtLast(LOGIC + "l $p w p $= ? zz", PROOF);
        Check.faultAtLast(LOGIC + "l $p w p $= ? mi", PROOF);
        Check.faultAtLast(LOGIC + "l $p w p $= ? l", PROOF);
        Check.faultAtLast(LOGIC + "l $p w p $= wi", STACK);
        Check.reads(LOGIC + "l $p w p $= ? " + Check.times(40, "wp") + "$.", 4);
    }

    private static void told(ProofLedger x, int k, int steps, int depth) {
        Check.due("steps of " + k, x.steps(k), steps);
        Check.due("depth of " + k, x.depth(k), depth);
    }

    private static void told() {
        ProofLedger x = Check.reads(LOGIC + "${ h $e t p $. l $p t > q p $= wp wq wp wi h wp wq a1 mp $. $} "
            + "m $p w > p > p p $= wp wp wp wi wi $. n $p w p $= wp $.", 6);
        told(x, 0, 0, 0);
        told(x, 2, 0, 0);
        told(x, 3, 9, 5);
        told(x, 4, 5, 3);
        told(x, 5, 1, 1);
        told(x, 6, ProofLedger.NONE, ProofLedger.NONE);
        told(x, -1, ProofLedger.NONE, ProofLedger.NONE);
        int[][] uses = {{0, 0, 0, 0, 0, 0}, {0, 0, 0, 0, 0, 0}, {0, 0, 0, 0, 0, 0}, {1, 1, 1, 0, 0, 0},
            {2, 0, 0, 0, 0, 0}, {0, 0, 0, 0, 0, 0}};
        for (int k = 0; k < 6; k++) {
            for (int j = 0; j < 6; j++) {
                Check.due("uses of " + j + " by " + k, x.uses(k, j), uses[k][j]);
            }
            Check.due("uses of none by " + k, x.uses(k, 6), 0);
            Check.due("uses of none below by " + k, x.uses(k, -1), 0);
        }
        Check.due("uses by none", x.uses(6, 0), ProofLedger.NONE);
        Check.due("uses by none of none", x.uses(-1, 99), ProofLedger.NONE);
        // What a fault left behind does not stay.
        x.clear();
        Check.feed(x, LOGIC + "l $p w p $= wp wp wi wp wp wi wp ");
        Check.due("unended", x.read(), ProofLedger.UNENDED);
        x.clear();
        Check.feed(x, LOGIC + "l $p w p $= wp $.");
        Check.due("read", x.read(), 4);
        told(x, 3, 1, 1);
        Check.due("uses", x.uses(3, 0), 0);
    }

    private static void proved() {
        ProofLedger x = Check.reads("$c a b $. ax $a a $. t1 $p a $= ax $. gap $p a $= ax ? $. t2 $p a $= gap $. "
            + "t3 $p a $= t2 $. t4 $p a $= t1 $. t5 $p a $= ? gap $. ${ h $e a $. t6 $p a $= h $. $} "
            + "t7 $p a $= ( gap t1 ) B $. t8 $p a $= ( t3 ) A $. t9 $p a $= ax t6 $.", 11);
        boolean[] due = {true, true, false, false, false, true, false, true, true, false, true};
        for (int k = 0; k < due.length; k++) {
            Check.due("proved " + k, x.proved(k), due[k]);
        }
        Check.due("none", x.proved(11), false);
        Check.due("none below", x.proved(-1), false);
        Check.due("incomplete", x.count(6), 2);
        Check.due("the use of an axiom before a gap", x.uses(2, 0), 1);
    }
}
