/** Promises 4 and 12 to 15: compressed proofs. */
public final class CompressedTest {
    private static final int PROOF = ProofLedger.PROOF;
    private static final int WORD = ProofLedger.WORD;
    private static final String LOGIC = "$c > w t $. $v p q r $. wp $f w p $. wq $f w q $. wr $f w r $. "
        + "wi $a w > p q $. a1 $a t > p > q p $. ${ mi $e t p $. ma $e t > p q $. mp $a t q $. $} ";

    private CompressedTest() {
    }

    public static void main(String[] args) {
        listing();
        words();
        numbers();
        largeNumbers();
        tags();
        ends();
        incomplete();
        told();
        Check.end();
    }

    private static void listing() {
        Check.reads(LOGIC + "l $p w p $= ( ) A $.", 4);
        Check.reads(LOGIC + "l $p w > p p $= ( wi wi a1 wq ) AAB $.", 4);
        Check.reads(LOGIC + "l $p w > p p $= ( wi wi ) AAC $.", 4);
        Check.faultAtLast(LOGIC + "l $p w p $= ( wp", PROOF);
        Check.faultAtLast(LOGIC + "${ h $e t q $. l $p w p $= ( h", PROOF);
        Check.faultAtLast(LOGIC + "${ h $e t q $. l $p w p $= ( wq", PROOF);
        Check.faultAtLast(LOGIC + "l $p w p $= ( mi", PROOF);
        Check.faultAtLast(LOGIC + "l $p w p $= ( l", PROOF);
        Check.faultAtLast(LOGIC + "l $p w p $= ( p", PROOF);
        Check.faultAtLast(LOGIC + "l $p w p $= ( ?", PROOF);
        Check.faultAtLast(LOGIC + "l $p w p $= ( (", PROOF);
        Check.reads(LOGIC + "l $p w p $= ( wq wr ) A $.", 4);
    }

    private static void words() {
        String start = LOGIC + "l $p w > p p $= ( wi ) ";
        String[] wrong = {"a", "A1", "AAa", "(", ")", "A?b", "AA.", "[", "@", "wi", "Za"};
        for (String word : wrong) {
            Check.faultAtLast(start + word, WORD);
        }
        // Before any letter of it counts: the Z alone would be PROOF.
        Check.faultAtLast(start + "Z-", WORD);
        Check.faultAtLast(start + "Z", PROOF);
        Check.reads(start + "A A B $.", 4);
        Check.reads(start + "AA B $.", 4);
    }

    private static void numbers() {
        ProofLedger x = Check.reads(LOGIC + "${ h $e t p $. l $p t > q p $= ( wi a1 mp ) ABADCABE F $. $}", 4);
        Check.due("steps", x.steps(3), 9);
        Check.due("depth", x.depth(3), 5);
        Check.due("uses of wi", x.uses(3, 0), 1);
        Check.faultAtLast(LOGIC + "l $p w p $= ( ) B", PROOF);
        Check.faultAtLast(LOGIC + "l $p w p $= ( wq ) C", PROOF);
        Check.faultAtLast(LOGIC + "l $p w p $= ( wi ) AZB", ProofLedger.STACK);
        Check.faultAtLast(LOGIC + "l $p w p $= ( wi ) AZD", PROOF);
        Check.faultAtLast(LOGIC + "l $p w p $= ( ) UA", PROOF);
        Check.faultAtLast(LOGIC + "l $p t $= ( ) A", PROOF);
    }

    private static void largeNumbers() {
        // 19 mandatory hypotheses, of which only the one with the number has the type b, and 20 labels.
        for (int n = 1; n <= 39; n++) {
            StringBuilder text = new StringBuilder("$c a b $. ");
            for (int i = 20; i <= 39; i++) {
                text.append("l").append(i).append(i == n ? " $a b $. " : " $a a $. ");
            }
            for (int i = 1; i <= 19; i++) {
                text.append("l").append(i).append(i == n ? " $e b $. " : " $e a $. ");
            }
            String letters = n <= 20 ? String.valueOf((char) ('A' + n - 1)) : "U" + (char) ('A' + n - 21);
            // The assertions have no hypotheses, as they were declared before them.
            text.append("m $p b $= ( ");
            for (int i = 20; i <= 39; i++) {
                text.append("l").append(i).append(' ');
            }
            Check.reads(text + ") " + letters + " $.", 21);
        }
        String start = "$c a $. $v x $. f $f a x $. d $a a x $. m $p a x $= ( ";
        Check.faultAtLast(start + ") VA", PROOF);
        Check.faultAtLast(start + ") YT", PROOF);
        Check.faultAtLast(start + ") UUA", PROOF);
        // The letters of a number go on in the next word.
        ProofLedger x = Check.reads(start + Check.times(20, "d") + ") A UAUAU A TT $.", 2);
        Check.due("steps", x.steps(1), 6);
        Check.due("uses", x.uses(1, 0), 5);
    }

    private static void tags() {
        String start = "$c a $. $v x y $. f $f a x $. fy $f a y $. two $a a x x $. j $a a x y $. "
            + "${ g $e a x $. h $e a x $. k $a a x $. $} ";
        // k takes an expression for its variable and the same twice for its hypotheses.
        ProofLedger x = Check.reads(start + "m $p a x x $= ( two k ) A BZ DDC $.", 4);
        Check.due("steps", x.steps(3), 5);
        Check.due("depth", x.depth(3), 3);
        Check.due("uses of two, not with tags", x.uses(3, 0), 1);
        Check.due("uses of k", x.uses(3, 2), 1);
        // A tagged expression stays as it was when its place on the stack is used again.
        Check.reads(start + "m $p a x x x x x x $= ( two j ) ABZBDC $.", 4);
        Check.faultAtLast(start + "m $p a x x $= ( two k ) ABZ B D $.", ProofLedger.STACK);
        Check.reads(start + "m $p a x x x x $= ( two k ) ABZBZEEC $.", 4);
        Check.faultAtLast(start + "m $p a x x x x $= ( two k ) ABZBZDDC", ProofLedger.MATCH);
        Check.faultAtLast(start + "m $p a x $= ( ) Z", PROOF);
        Check.faultAtLast(start + "m $p a x $= ( ) AZZ", PROOF);
        Check.faultAtLast(start + "m $p a x $= ( ) AZ Z", PROOF);
        Check.faultAtLast(start + "m $p a x $= ( ) AUZ", PROOF);
        Check.faultAtLast(start + "m $p a x $= ( ) A?Z", PROOF);
        Check.faultAtLast(start + "m $p a x $= ( ) ?Z", PROOF);
        Check.reads(start + "m $p a x $= ( ) A Z $.", 4);
        Check.reads(start + "m $p a x x $= ( j ) AZCBZ $.", 4);
        // Labels and tags of an earlier proof are gone.
        Check.reads(start + "m $p a x x $= ( two ) ABZ $. n $p a x x $= ( j k ) AZDBZEEC $.", 5);
        Check.reads(start + "m $p a x $= ( " + Check.times(11, "two") + ") A $. n $p a x $= ( "
            + Check.times(11, "two") + ") A $.", 5);
        Check.faultAtLast(start + "m $p a x $= ( ) AZ $. n $p a x $= ( ) AB", PROOF);
    }

    private static void ends() {
        String start = LOGIC + "l $p w p $= ";
        Check.faultAtLast(start + "( ) $.", ProofLedger.STACK);
        Check.faultAtLast(start + "( ) AA $.", ProofLedger.STACK);
        Check.faultAtLast(start + "( wq ) B $.", ProofLedger.MATCH);
        Check.faultAtLast(start + "( ) AU $.", PROOF);
        Check.faultAtLast(start + "( ) A U $.", PROOF);
        Check.faultAtLast(start + "( ) ?U $.", PROOF);
        // The number of an unended proof is no part of the next one.
        ProofLedger x = new ProofLedger();
        Check.feed(x, start + "( ) AU $.");
        Check.due("inside a number", x.read(), PROOF);
        x.clear();
        Check.feed(x, start + "( ) A $.");
        Check.due("read", x.read(), 4);
    }

    private static void incomplete() {
        ProofLedger x = Check.reads(LOGIC + "l $p w p $= ( ) ? $. m $p w > p p $= ( wi ) AAB?BBBA $. "
            + "n $p w p $= ( wi ) A?BZC $. o $p w p $= ( ) ??A?? $. u $p w p $= ( wi ) AZ?ACBZD $.", 8);
        Check.due("incomplete ones", x.count(6), 5);
        int[] steps = {0, 3, 1, 0, 1};
        int[] depths = {0, 2, 1, 0, 1};
        for (int i = 0; i < steps.length; i++) {
            Check.due("steps " + i, x.steps(3 + i), steps[i]);
            Check.due("depth " + i, x.depth(3 + i), depths[i]);
            Check.due("proved " + i, x.proved(3 + i), false);
        }
        Check.due("uses before the ?", x.uses(4, 0), 1);
        Check.due("uses behind the ?", x.uses(5, 0), 0);
        Check.faultAtLast(LOGIC + "l $p w p $= ( ) ?B", PROOF);
        Check.faultAtLast(LOGIC + "l $p w p $= ( wi ) ?AZD", PROOF);
        Check.faultAtLast(LOGIC + "l $p w p $= ( ) ?AZZ", PROOF);
        Check.faultAtLast(LOGIC + "l $p w p $= ( ) U?", PROOF);
        Check.faultAtLast(LOGIC + "l $p w p $= ( ) AV ?", PROOF);
        Check.faultAtLast(LOGIC + "l $p w p $= ( ) ?U?", PROOF);
        Check.faultAtLast(LOGIC + "l $p w p $= ( ) ? a", WORD);
        Check.faultAtLast(LOGIC + "l $p w p $= ( q1", PROOF);
    }

    private static void told() {
        ProofLedger x = Check.reads(LOGIC + "l $p w > p > p p $= ( wi ) AAABB $. m $p w > p > p p $= ( wi l ) AC $. "
            + "n $p w p $= ( l m ) A $.", 6);
        Check.due("steps", x.steps(3), 5);
        Check.due("depth", x.depth(3), 3);
        Check.due("uses", x.uses(3, 0), 2);
        Check.due("listed, not used", x.uses(4, 0), 0);
        Check.due("used", x.uses(4, 3), 1);
        Check.due("steps with a theorem", x.steps(4), 2);
        Check.due("depth with a theorem", x.depth(4), 1);
        Check.due("listed alone", x.uses(5, 3), 0);
        Check.due("proved", x.proved(5), true);
    }
}
