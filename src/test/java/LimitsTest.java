/** Promise 4, read: the limits of the document, each met exactly and gone beyond by one (ROOM). */
public final class LimitsTest {
    private static final int NAME = ProofLedger.NAME;
    private static final int ROOM = ProofLedger.ROOM;

    private LimitsTest() {
    }

    public static void main(String[] args) {
        names();
        statements();
        pairs();
        symbols();
        stack();
        results();
        listed();
        tagged();
        numbers();
        Check.end();
    }

    private static void names() {
        String full = "$c " + Check.times(58, "c#") + "$. ${ $v x $. $} l $a c0 $. ";
        Check.reads(full, 1);
        Check.reads(full + "$v x $.", 1);
        Check.faultAtLast(full + "$c q", ROOM);
        Check.faultAtLast(full + "$c c1", NAME);
        Check.faultAtLast(full + "$v q", ROOM);
        Check.faultAtLast(full + "$v c1", NAME);
        Check.faultAtLast(full + "$v x x", NAME);
        Check.faultAtLast(full + "q", ROOM);
        Check.faultAt(full + "q $x", ROOM, Check.words(full));
        Check.faultAtLast(full + "l", NAME);
        Check.due("all constants are there", Check.reads("$c " + Check.times(60, "c#") + "$.", 0).count(0), 60);
        Check.due("60 are there", Check.faultAtLast("$c " + Check.times(61, "c#"), ROOM).count(0), 60);
        ProofLedger x = Check.faultAtLast("$v " + Check.times(61, "v#"), ROOM);
        Check.due("60 variables are there", x.count(1), 60);
    }

    private static void statements() {
        String full = "$c a $. " + Check.times(40, "l# $a a $.");
        ProofLedger x = Check.reads(full, 40);
        Check.due("the last label", x.label(39), Check.code("l39"));
        Check.due("the last symbol", x.symbol(39, 0), Check.code("a"));
        Check.faultAtLast(full + "m", ROOM);
        Check.faultAt(full + "m q", ROOM, Check.words(full));
        Check.faultAtLast(full + "l39", NAME);
        Check.reads(full + "$c b $.", 40);
        String hypotheses = "$c a $. " + Check.times(20, "${ h# $e a $. $}") + Check.times(20, "l# $a a $.");
        Check.reads(hypotheses, 20);
        Check.faultAtLast(hypotheses + "m", ROOM);
        ProofLedger y = Check.reads("$c a $. " + Check.times(39, "h# $e a $.") + "l $p a $= h38 $.", 1);
        Check.due("39 mandatory hypotheses", y.hypothesis(0, 38), Check.code("h38"));
        Check.due("and no more", y.hypothesis(0, 39), ProofLedger.NONE);
        ProofLedger z = Check.reads("$c a $. l0 $a a $. " + Check.times(39, "m# $p a $= l0 $."), 40);
        Check.due("uses", z.uses(39, 0), 1);
        Check.due("uses of itself", z.uses(39, 39), 0);
    }

    private static void pairs() {
        String variables = "$v a b c d e f g h i j $. ";
        String most = variables + "$d a b c d e f g h i $. $d a b $. $d b a $. $d a j $. $d b j $. ";
        Check.reads(most, 0);
        Check.faultAtLast(most + "$d a b", ROOM);
        Check.faultAtLast(most + "$d a a", NAME);
        Check.faultAtLast(variables + "$d a b c d e f g h i j", ROOM);
        // Those of a scope that was closed are active no more.
        Check.reads(variables + Check.times(5, "${ $d a b c d e f g h i $. $d a b c $. $d a j $. $}"), 0);
        ProofLedger x = Check.reads("$c t $. $v a b c d e f g h i $. f1 $f t a $. f2 $f t b $. f3 $f t c $. "
            + "f4 $f t d $. f5 $f t e $. f6 $f t f $. f7 $f t g $. f8 $f t h $. f9 $f t i $. "
            + "$d a b c d e f g h i $. l $a t a b c d e f g h i $. "
            + "m $p t a b c d e f g h i $= f1 f2 f3 f4 f5 f6 f7 f8 f9 l $.", 2);
        Check.due("36 pairs", x.pairs(0), 36);
        Check.due("36 pairs of the theorem", x.pairs(1), 36);
        Check.due("the last pair", x.apart(1, 'i', 'h'), true);
    }

    private static void symbols() {
        String start = "$c a b $. ";
        String most = Check.times(24, "a");
        ProofLedger x = Check.reads(start + "l $a " + most + "$. m $p " + most + "$= l $.", 2);
        Check.due("symbol 23", x.symbol(0, 23), Check.code("a"));
        Check.due("symbol 24", x.symbol(0, 24), ProofLedger.NONE);
        Check.reads(start + "l $e " + most + "$.", 0);
        String[] kinds = {"$e ", "$a ", "$p "};
        for (String kind : kinds) {
            Check.faultAtLast(start + "l " + kind + most + "b", ROOM);
            Check.faultAtLast(start + "l " + kind + most + "q", NAME);
        }
    }

    private static void stack() {
        String start = "$c a $. $v x $. f $f a x $. l $a a $. two $a a x $. ";
        Check.faultAtLast(start + "m $p a x $= " + Check.times(16, "f") + "$.", ProofLedger.STACK);
        Check.faultAtLast(start + "m $p a x $= " + Check.times(17, "f"), ROOM);
        Check.faultAtLast(start + "m $p a x $= " + Check.times(16, "f") + "l", ROOM);
        Check.faultAtLast(start + "m $p a x $= " + Check.times(16, "f") + "two $.", ProofLedger.STACK);
        Check.faultAtLast(start + "m $p a x $= " + Check.times(16, "l") + "l", ROOM);
        Check.faultAtLast(start + "m $p a x $= ( ) AZ BBBBBBB BBBBBBBB $.", ProofLedger.STACK);
        Check.faultAtLast(start + "m $p a x $= ( ) AZ BBBBBBBB BBBBBBBB", ROOM);
        // Looking up goes before.
        Check.faultAtLast(start + "m $p a x $= " + Check.times(16, "f") + "q", ProofLedger.PROOF);
        ProofLedger x = Check.reads("$c a $. " + Check.times(16, "h# $e a $.") + "l $a a $. m $p a $= "
            + Check.times(16, "h#") + "l $.", 2);
        Check.due("depth", x.depth(1), 16);
        Check.due("steps", x.steps(1), 17);
        Check.due("last hypothesis", x.hypothesis(1, 15), Check.code("h15"));
    }

    private static void results() {
        String start = "$c a b $. $v x $. f $f a x $. d $a a x x $. t $a a x x x $. o $a a b x $. ";
        // 1 + 2 * 11 = 23 symbols, one more 24, and one more too many; 1 + 3 * 8 is too many at once.
        String eleven = "l $a a " + Check.times(11, "x") + "$. e $a a " + Check.times(8, "x") + "$. ";
        Check.faultAtLast(start + eleven + "m $p a $= f l d $.", ProofLedger.MATCH);
        Check.faultAtLast(start + eleven + "m $p a $= f l d o $.", ProofLedger.MATCH);
        Check.faultAtLast(start + eleven + "m $p a $= f l d o o", ROOM);
        Check.faultAtLast(start + eleven + "m $p a $= f e t", ROOM);
        Check.reads(start + eleven + "m $p a b " + Check.times(22, "x") + "$= f l d o $.", 6);
    }

    private static void listed() {
        String start = "$c a $. " + Check.times(21, "l# $a a $.");
        Check.reads(start + "m $p a $= ( " + Check.times(20, "l#") + ") A $.", 22);
        Check.reads(start + "m $p a $= ( " + Check.times(20, "l#") + ") T $.", 22);
        Check.faultAtLast(start + "m $p a $= ( " + Check.times(20, "l#") + ") UA", ProofLedger.PROOF);
        Check.faultAtLast(start + "m $p a $= ( " + Check.times(21, "l#"), ROOM);
        Check.faultAtLast(start + "m $p a $= ( " + Check.times(20, "l#") + "q", ProofLedger.PROOF);
        // The mandatory ones do not count.
        ProofLedger x = Check.reads("$c a b $. " + Check.times(20, "l# $a b $.") + Check.times(19, "h# $e a $.")
            + "m $p b $= ( " + Check.times(20, "l#") + ") US $.", 21);
        Check.due("the 39th of them", x.uses(20, 19), 1);
    }

    private static void tagged() {
        String start = "$c a $. $v x $. f $f a x $. d $a a x $. m $p a x $= ( d ) A ";
        Check.reads(start + Check.times(16, "BZ") + "$.", 2);
        Check.faultAtLast(start + Check.times(17, "BZ"), ROOM);
        Check.faultAtLast(start + Check.times(16, "BZ") + "Z", ProofLedger.PROOF);
        Check.faultAtLast(start + Check.times(16, "BZ") + "R $.", ProofLedger.STACK);
        Check.faultAtLast(start + Check.times(16, "BZ") + "S", ProofLedger.PROOF);
        // 37 mandatory ones, 20 labels and 16 tags.
        String most = "$c a $. ${ e $e a $. d $a a $. $} " + Check.times(37, "h# $e a $.") + "m $p a $= ( "
            + Check.times(20, "d") + ") A " + Check.times(16, "URZ");
        Check.faultAtLast(most + "WM $.", ProofLedger.STACK);
        Check.faultAtLast(most + "WN", ProofLedger.PROOF);
        // Those behind a ? count, too.
        Check.reads(start + "? " + Check.times(16, "BZ") + "R $.", 2);
        Check.faultAtLast(start + "? " + Check.times(16, "BZ") + "S", ProofLedger.PROOF);
        Check.faultAtLast(start + "? " + Check.times(17, "BZ"), ROOM);
        Check.faultAtLast(start + Check.times(8, "BZ") + "? " + Check.times(9, "BZ"), ROOM);
    }

    private static void numbers() {
        String start = "$c a $. l $a a $. m $p a $= ( l ) ";
        Check.faultAtLast(start + "YYYYT", ROOM);
        Check.faultAtLast(start + numberOf(9999), ProofLedger.PROOF);
        Check.faultAtLast(start + numberOf(10000), ROOM);
        Check.faultAtLast(start + "UUUUUU UU", ROOM);
        Check.faultAtLast(start + "UUUUUU $.", ProofLedger.PROOF);
        Check.faultAtLast(start + "YYYYYY", ROOM);
        Check.faultAt(start + "YYYYYYYY YYYYYYYY", ROOM, Check.words(start));
        // Behind a ? numbers are made all the same.
        Check.faultAtLast(start + "? " + numberOf(10000), ROOM);
    }

    private static String numberOf(int n) {
        int rest = (n - 1) / 20;
        String letters = String.valueOf((char) ('A' + (n - 1) % 20));
        while (rest > 0) {
            letters = (char) ('U' + (rest - 1) % 5) + letters;
            rest = (rest - 1) / 5;
        }
        return letters;
    }
}
