/** Promises 4 to 6, read, place and count: what each statement declares, and the faults of its names. */
public final class DeclarationsTest {
    private static final int NAME = ProofLedger.NAME;
    private static final int KIND = ProofLedger.KIND;
    private static final String START = "$c a b $. $v x y $. fx $f a x $. ax $a a x $. ";

    private DeclarationsTest() {
    }

    public static void main(String[] args) {
        constants();
        variables();
        variablesAgain();
        apartNames();
        floating();
        expressions();
        labels();
        declaredAtTheEnd();
        counts();
        Check.end();
    }

    private static void constants() {
        Check.faultAtLast("$c a a", NAME);
        Check.faultAtLast("$c a $. $c b a", NAME);
        Check.faultAtLast(START + "$c x", NAME);
        Check.faultAtLast(START + "$c fx", NAME);
        Check.faultAtLast(START + "$c ax", NAME);
        Check.faultAtLast("${ $v x $. $} $c x", NAME);
        Check.faultAtLast("$c a $. $v x $. ${ f $f a x $. $} $c f", NAME);
        Check.due("those before the fault stay", Check.faultAtLast("$c a b c a", NAME).count(0), 3);
        Check.reads("$c ( ) ? Z ~ ! #%& $.", 0);
    }

    private static void variables() {
        Check.faultAtLast("$v x x", NAME);
        Check.faultAtLast("$v x $. ${ $v x", NAME);
        Check.faultAtLast(START + "$v a", NAME);
        Check.faultAtLast(START + "$v ax", NAME);
        Check.faultAtLast(START + "$v fx", NAME);
        Check.faultAtLast("$c a $. $v x $. ${ f $f a x $. $} $v f", NAME);
        Check.due("those before the fault stay", Check.faultAtLast("$v x y z x", NAME).count(1), 3);
    }

    private static void variablesAgain() {
        ProofLedger x = Check.reads("$c a b $. ${ $v x $. f $f a x $. m $a a x $. $} "
            + "${ $v x $. g $f b x $. n $a b x $. $} $v x $. h $f a x $. o $p a x $= h m $.", 3);
        Check.due("different variables", x.count(1), 1);
        Check.due("floating", x.count(2), 3);
        Check.due("the first one's hypothesis", x.hypothesis(0, 0), Check.code("f"));
        Check.due("the second one's hypothesis", x.hypothesis(1, 0), Check.code("g"));
        Check.due("the third one's hypothesis", x.hypothesis(2, 0), Check.code("h"));
        Check.due("no more of them", x.hypothesis(2, 1), ProofLedger.NONE);
        Check.faultAtLast("$c a $. ${ $v x $. $} f $f a x", NAME);
        Check.faultAtLast("${ $v x $. $} $d x", NAME);
        Check.faultAtLast("${ $v x $. $} $v x $. $c a $. l $a a x", NAME);
        Check.faultAtLast("$c a $. ${ $v x $. f $f a x $. $} $v x $. l $a a x", NAME);
        Check.faultAtLast("$c a $. $v x $. ${ f $f a x $. $} l $a a x", NAME);
        Check.reads("$c a $. $v x $. ${ f $f a x $. $} g $f a x $. l $a a x $.", 1);
    }

    private static void apartNames() {
        Check.reads(START + "$d x y $.", 1);
        Check.reads(START + "$d x y $. $d y x $. $d x y $.", 1);
        Check.faultAtLast(START + "$d q", NAME);
        Check.faultAtLast(START + "$d x q", NAME);
        Check.faultAtLast(START + "$d fx", NAME);
        Check.faultAtLast(START + "${ $v z $. $} $d z", NAME);
        Check.faultAtLast(START + "$d a", KIND);
        Check.faultAtLast(START + "$d x a", KIND);
        Check.faultAtLast(START + "$d x x", NAME);
        Check.faultAtLast(START + "$d x y x", NAME);
    }

    private static void floating() {
        Check.faultAtLast(START + "l $f q", NAME);
        Check.faultAtLast(START + "l $f ax", NAME);
        Check.faultAtLast(START + "l $f l", NAME);
        Check.faultAtLast(START + "${ $v z $. $} l $f z", NAME);
        Check.faultAtLast(START + "l $f y", KIND);
        Check.faultAtLast(START + "l $f a q", NAME);
        Check.faultAtLast(START + "l $f a fx", NAME);
        Check.faultAtLast(START + "${ $v z $. $} l $f a z", NAME);
        Check.faultAtLast(START + "l $f a a", KIND);
        Check.faultAtLast(START + "l $f a x", NAME);
        Check.faultAtLast(START + "l $f b x", NAME);
        Check.faultAtLast(START + "${ l $f b x", NAME);
        Check.reads(START + "${ l $f b y $. $} m $f a y $.", 1);
    }

    private static void expressions() {
        String[] kinds = {"$e", "$a", "$p"};
        for (String kind : kinds) {
            Check.faultAtLast(START + "l " + kind + " q", NAME);
            Check.faultAtLast(START + "l " + kind + " ax", NAME);
            Check.faultAtLast(START + "${ $v z $. $} l " + kind + " z", NAME);
            Check.faultAtLast(START + "l " + kind + " x", KIND);
            Check.faultAtLast(START + "l " + kind + " y", KIND);
            Check.faultAtLast(START + "l " + kind + " a q", NAME);
            Check.faultAtLast(START + "l " + kind + " a x b l", NAME);
            Check.faultAtLast(START + "l " + kind + " a fx", NAME);
            Check.faultAtLast(START + "l " + kind + " a x y", NAME);
        }
        Check.reads(START + "l $e a $. m $e a a b x x $. n $a b $. o $a b x b $.", 3);
    }

    private static void labels() {
        Check.faultAtLast(START + "a", NAME);
        Check.faultAtLast(START + "x", NAME);
        Check.faultAtLast(START + "fx", NAME);
        Check.faultAtLast(START + "ax", NAME);
        Check.faultAtLast(START + "${ $v z $. $} z", NAME);
        Check.faultAtLast(START + "${ h $e a $. $} h", NAME);
        Check.faultAtLast(START + "${ h $a a $. $} h", NAME);
        Check.faultAtLast(START + "${ h $f a y $. $} h", NAME);
        // A name can be anything without a $.
        Check.reads("$c a $. ? $a a $. ( $a a $. ) $p a $= ? $. A $p a $= ( ( ) A $.", 4);
    }

    private static void declaredAtTheEnd() {
        ProofLedger x = Check.faultAtLast(START + "l $a a b $. m $a a b b $=", ProofLedger.WORD);
        Check.due("axioms", x.count(4), 2);
        Check.due("no third assertion", x.label(2), ProofLedger.NONE);
        Check.due("no theorem", Check.faultAtLast(START + "l $p a x $= fx fx $.", ProofLedger.STACK).count(5), 0);
        Check.due("no floating", Check.unended(START + "l $f a y").count(2), 1);
        Check.due("no essential", Check.unended(START + "l $e a x").count(3), 0);
        Check.due("no axiom", Check.unended(START + "l $a a x").count(4), 1);
        Check.faultAtLast(START + "l $p a $= l", ProofLedger.PROOF);
        Check.faultAtLast(START + "l $p a $= ( l", ProofLedger.PROOF);
    }

    private static void counts() {
        ProofLedger x = Check.reads("$c a b c $. $v x y $. f $f a x $. g $f a y $. "
            + "${ h $e a x $. i $e a y $. j $e a $. l $a b $. $} $v z $. ${ $v u $. $} "
            + "m $a a x $. n $a c $. o $a c c $. p $p c $= n $. q $p b $= ? $. "
            + "r $p c $= ( ) ? $. s $p c $= p $. t $p c $= n $. k $p c $= n $.", 10);
        int[] due = {3, 4, 2, 3, 4, 6, 2};
        for (int what = 0; what < due.length; what++) {
            Check.due("count " + what, x.count(what), due[what]);
        }
        Check.due("count 7", x.count(7), ProofLedger.NONE);
        Check.due("count -1", x.count(-1), ProofLedger.NONE);
    }
}
