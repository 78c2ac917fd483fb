/**
 * The boundary cases of promise 4, read, in compressed proofs: labels, words of letters, numbers, tags, gaps and
 * ends. Each method holds to one sentence of the document.
 */
public final class CompressedBoundaryTest {
    private static final int MATCH = ProofLedger.MATCH;
    private static final int PROOF = ProofLedger.PROOF;
    private static final int ROOM = ProofLedger.ROOM;
    private static final int STACK = ProofLedger.STACK;
    private static final int WORD = ProofLedger.WORD;
    private static final String START = "$c a b $. $v x y $. fx $f a x $. fy $f a y $. k0 $a a $. k1 $a a x $. "
        + "k2 $a a x y $. ";
    // Its only mandatory hypothesis is fx, so that A is fx.
    private static final String THEOREM = START + "l $p a x $= ";

    private CompressedBoundaryTest() {
    }

    public static void main(String[] args) {
        beginsWithTheWord();
        labelsUpToTheWord();
        whichLabels();
        twentyLabels();
        wordsPerhapsNone();
        wordsOfLetters();
        lettersGoOn();
        lastLetters();
        firstLetters();
        above9999();
        whatTheNumbersTell();
        noneOfThese();
        taggedAsTheyWere();
        taggedOnAFullStack();
        sixteenTagged();
        behindTheEndOfANumber();
        gapInsideANumber();
        endInsideANumber();
        tagsBehindAGap();
        ends();
        Check.end();
    }

    private static void beginsWithTheWord() {
        Check.sentence("A proof that begins with the word ( is COMPRESSED.");
        Check.reads(THEOREM + "( ) A $.", 4);
        Check.faultAtLast(THEOREM + "()", PROOF);
        Check.faultAtLast(THEOREM + "(A", PROOF);
        Check.faultAtLast(THEOREM + "fx (", PROOF);
        Check.faultAtLast(THEOREM + ")", PROOF);
        Check.faultAtLast(THEOREM + "A", PROOF);
        Check.reads(THEOREM + "$( c $) ( ) A $.", 4);
        // A normal one and a compressed one do not change each other.
        Check.reads(THEOREM + "( ) A $. m $p a x $= fx $. n $p a x $= ( ) A $.", 6);
        Check.faultAtLast(THEOREM + "( ) A $. m $p a x $= A", PROOF);
    }

    private static void labelsUpToTheWord() {
        Check.sentence("Labels up to the word ).");
        Check.reads(THEOREM + "( ) A $.", 4);
        Check.reads(THEOREM + "( k1 ) AB $.", 4);
        Check.unended(THEOREM + "( k1");
        Check.faultAtLast(THEOREM + "( $.", WORD);
        Check.faultAtLast(THEOREM + "( k1 $.", WORD);
        Check.faultAtLast(THEOREM + "( k1 A", PROOF);
        Check.faultAtLast(THEOREM + "( k1 )) ", PROOF);
        Check.faultAtLast(THEOREM + "( k1 ) )", WORD);
        Check.faultAtLast(THEOREM + "( (", PROOF);
    }

    private static void whichLabels() {
        Check.sentence("Each of a hypothesis that is active and not mandatory for the theorem, or of an earlier "
            + "assertion (PROOF).");
        String start = START + "${ kw $a a $. fw $e a $. $} g $e a $. l $p a x $= ( ";
        String[] right = {"fy", "k0", "k1", "kw"};
        for (String label : right) {
            Check.unended(start + label);
        }
        // Mandatory, active no more, its own, no labels.
        String[] wrong = {"fx", "g", "fw", "l", "q", "a", "b", "x", "y", "?", "A", "(", "fxx"};
        for (String label : wrong) {
            Check.faultAtLast(start + label, PROOF);
            Check.faultAtLast(start + "fy k0 " + label, PROOF);
        }
        // The variable of a mandatory essential one makes its floating one mandatory.
        Check.faultAtLast(START + "g $e a y $. l $p a x $= ( fy", PROOF);
        Check.unended(START + "g $e a y $. l $p a $= ( k0");
        Check.unended(START + "l $p a $= ( fx fy");
    }

    private static void twentyLabels() {
        Check.sentence("At most 20 of them: ROOM.");
        String start = "$c a b $. " + Check.times(21, "k# $a b $.") + "o $a a $. ";
        Check.reads(start + "l $p b $= ( " + Check.times(20, "k#") + ") T $.", 23);
        Check.reads(start + "l $p a $= ( " + Check.times(19, "k#") + "o ) T $.", 23);
        Check.faultAtLast(start + "l $p b $= ( " + Check.times(21, "k#"), ROOM);
        Check.faultAtLast(start + "l $p b $= ( " + Check.times(20, "k#") + "k0", ROOM);
        // Mandatory ones are none of them.
        String many = "$c a b $. " + Check.times(20, "k# $a b $.") + Check.times(19, "h# $e a $.") + "l $p b $= ( ";
        Check.due("the 39th", Check.reads(many + Check.times(20, "k#") + ") US $.", 21).uses(20, 19), 1);
        Check.faultAtLast(many + Check.times(20, "k#") + "k0", ROOM);
        // Each proof has as many.
        Check.reads(start + "l $p b $= ( " + Check.times(20, "k#") + ") T $. m $p b $= ( " + Check.times(20, "k#")
            + ") A $.", 24);
    }

    private static void wordsPerhapsNone() {
        Check.sentence("And then words (perhaps none).");
        Check.faultAtLast(THEOREM + "( ) $.", STACK);
        Check.faultAtLast(THEOREM + "( k0 ) $.", STACK);
        Check.reads(THEOREM + "( k1 ) A $.", 4);
        Check.reads(THEOREM + "( k1 ) A B $.", 4);
    }

    private static void wordsOfLetters() {
        Check.sentence("Of letters A .. Z and ? alone (WORD for others, before any letter of it counts).");
        for (char c = 33; c <= 126; c++) {
            boolean letter = c >= 'A' && c <= 'Z' || c == '?';
            ProofLedger x = Check.reading(THEOREM + "( ) " + c);
            Check.due("'" + c + "' is WORD", x.read() == WORD, !letter);
            if (!letter) {
                // Each of these words has a letter before that is a fault of its own.
                Check.faultAtLast(THEOREM + "( ) Z" + c, WORD);
                Check.faultAtLast(THEOREM + "( ) B" + c, WORD);
                Check.faultAtLast(THEOREM + "( ) U?" + c, WORD);
                Check.faultAtLast(THEOREM + "( k2 ) B" + c, WORD);
                Check.faultAtLast(THEOREM + "( ) YYYYYYY" + c, WORD);
                Check.faultAtLast(THEOREM + "( ) " + c + "A", WORD);
                Check.faultAtLast(THEOREM + "( ) ? " + c, WORD);
            }
        }
        // The words before count.
        Check.faultAt(THEOREM + "( ) Z a", PROOF, Check.words(THEOREM) + 2);
    }

    private static void lettersGoOn() {
        Check.sentence("Letters go on from word to word.");
        String start = "$c a b $. " + Check.times(20, "k# $a b $.") + "h $e b $. o $a a $. l $p b $= ( "
            + Check.times(20, "k#") + ") ";
        Check.due("one word", Check.reads(start + "UA $.", 22).uses(21, 19), 1);
        Check.due("two words", Check.reads(start + "U A $.", 22).uses(21, 19), 1);
        Check.faultAtLast(start + "U U A", PROOF);
        Check.faultAtLast(start + "A U Z", PROOF);
        Check.reads(THEOREM + "( k1 ) A Z B $.", 4);
        Check.reads(THEOREM + "( k1 ) AZB $.", 4);
        Check.faultAtLast(THEOREM + "( ) A Z Z", PROOF);
    }

    private static void lastLetters() {
        Check.sentence("From 0 on, A .. T make it 20 * n + 1 .. 20.");
        for (int n = 1; n <= 39; n++) {
            ProofLedger x = withTheNumber(n, numberOf(n));
            Check.due("read of number " + n, x.read(), 21);
        }
        Check.faultAtLast("$c a $. h $e a $. l $p a $= ( ) @", WORD);
        Check.faultAtLast("$c a $. h $e a $. l $p a $= ( ) B", PROOF);
    }

    /** A proof of one step among 39, of which only the one with the number proves the theorem. */
    private static ProofLedger withTheNumber(int number, String letters) {
        StringBuilder text = new StringBuilder("$c a b $. ");
        StringBuilder listed = new StringBuilder();
        for (int i = 20; i <= 39; i++) {
            text.append("l").append(i).append(i == number ? " $a b $. " : " $a a $. ");
            listed.append("l").append(i).append(' ');
        }
        for (int i = 1; i <= 19; i++) {
            text.append("l").append(i).append(i == number ? " $e b $. " : " $e a $. ");
        }
        return Check.reading(text + "m $p b $= ( " + listed + ") " + letters + " $.");
    }

    private static void firstLetters() {
        Check.sentence("U .. Y make n to 5 * n + 1 .. 5.");
        // 37 mandatory ones, of which the last alone is the theorem's own, 20 labels and 16 tags: 73 in all.
        String start = "$c a b $. ${ e $e a $. d $a a $. $} " + Check.times(36, "h# $e a $.") + "h $e b $. l $p b $= ( "
            + Check.times(20, "d") + ") ";
        Check.reads(start + "UQ $.", 2);
        Check.faultAtLast(start + "UP $.", MATCH);
        Check.faultAtLast(start + "T $.", MATCH);
        Check.unended(start + "AUR");
        Check.unended(start + "AVQ");
        Check.faultAtLast(start + "AVR", PROOF);
        String tagged = start + "A " + Check.times(16, "URZ");
        Check.faultAtLast(tagged + "VR $.", STACK);
        Check.faultAtLast(tagged + "WA $.", STACK);
        Check.faultAtLast(tagged + "WM $.", STACK);
        String[] none = {"WN", "XA", "YA", "UUA", "YYT"};
        for (String letters : none) {
            Check.faultAtLast(tagged + letters, PROOF);
        }
    }

    private static void above9999() {
        Check.sentence("ROOM as soon as it is above 9999.");
        int[] below = {40, 41, 120, 121, 620, 621, 9919, 9980, 9981, 9998, 9999};
        for (int n : below) {
            Check.faultAtLast(THEOREM + "( ) " + numberOf(n), PROOF);
            Check.faultAtLast(THEOREM + "( ) ?" + numberOf(n), PROOF);
        }
        int[] above = {10000, 10001, 10020, 15620, 15621, 78120};
        for (int n : above) {
            Check.faultAtLast(THEOREM + "( ) " + numberOf(n), ROOM);
            Check.faultAtLast(THEOREM + "( ) ?" + numberOf(n), ROOM);
        }
        // The letters U .. Y alone.
        Check.unended(THEOREM + "( ) AUUUUUU");
        Check.faultAtLast(THEOREM + "( ) AUUUUUU $.", PROOF);
        Check.unended(THEOREM + "( ) A" + begunNumberOf(9999));
        Check.faultAtLast(THEOREM + "( ) A" + begunNumberOf(10000), ROOM);
        Check.faultAtLast(THEOREM + "( ) A" + begunNumberOf(10001), ROOM);
        Check.faultAtLast(THEOREM + "( ) UUUUUUUU", ROOM);
        Check.faultAtLast(THEOREM + "( ) YYYYY Y", ROOM);
        // As soon as that: what stands behind, and would wrap around, is not come to.
        Check.faultAt(THEOREM + "( ) " + Check.times(100, "YYYYYYYY"), ROOM, Check.words(THEOREM) + 2);
        Check.faultAt(THEOREM + "( ) YYYYYYY a", ROOM, Check.words(THEOREM) + 2);
    }

    /** The letters of a number, its last one of A .. T. */
    private static String numberOf(int n) {
        return begunNumberOf((n - 1) / 20) + (char) ('A' + (n - 1) % 20);
    }

    /** The letters U .. Y that make 0 to n. */
    private static String begunNumberOf(int n) {
        String letters = "";
        for (int rest = n; rest > 0; rest = (rest - 1) / 5) {
            letters = (char) ('U' + (rest - 1) % 5) + letters;
        }
        return letters;
    }

    private static void whatTheNumbersTell() {
        Check.sentence("It is a step with the n-th of these: the theorem's mandatory hypotheses, the labels, the TAGGED "
            + "expressions.");
        // The mandatory ones are fx, fy, g in the order in which they were declared; then k2 and k1, then the tags.
        String start = START + "g $e a y x $. l $p ";
        Check.reads(start + "a x $= ( k2 k1 ) A $.", 4);
        Check.reads(start + "a y $= ( k2 k1 ) B $.", 4);
        Check.reads(start + "a y x $= ( k2 k1 ) C $.", 4);
        Check.reads(start + "a x y $= ( k2 k1 ) ABD $.", 4);
        Check.reads(start + "a x $= ( k2 k1 ) AE $.", 4);
        Check.reads(start + "a x x $= ( k2 k1 ) AZFD $.", 4);
        Check.reads(start + "a x y x y $= ( k2 k1 ) AZBZ D Z HD $.", 4);
        Check.reads(start + "a x y x $= ( k2 k1 ) AZBZ D Z FD $.", 4);
        Check.reads(start + "a x y y $= ( k2 k1 ) AZBZ D Z GD $.", 4);
        // Without mandatory ones the labels are the first, and without labels the tags.
        Check.reads(START + "l $p a $= ( k0 k1 ) AB $.", 4);
        Check.reads("$c a $. h $e a $. k $a a $. l $p a $= ( k ) AZCCB ? $.", 2);
        Check.reads("$c a $. k $a a $. h $e a $. l $p a $= ( ) AZ $.", 2);
    }

    private static void noneOfThese() {
        Check.sentence("PROOF when there is none.");
        Check.faultAtLast(START + "l $p a $= ( ) A", PROOF);
        Check.faultAtLast(THEOREM + "( ) B", PROOF);
        Check.faultAtLast(THEOREM + "( k1 ) C", PROOF);
        Check.faultAtLast(THEOREM + "( k1 ) AZD", PROOF);
        Check.faultAtLast(THEOREM + "( k1 ) ACZ", PROOF);
        Check.faultAtLast(THEOREM + "( ) UA", PROOF);
        Check.unended(THEOREM + "( k1 ) AZC");
        // A label that is listed twice is two of them.
        Check.reads(THEOREM + "( k1 k1 ) AC $.", 4);
        Check.faultAtLast(THEOREM + "( k1 k1 ) AD", PROOF);
        // Looked up before the stack is: it has no room.
        Check.faultAtLast(THEOREM + "( ) AAAAAAAA AAAAAAAA B", PROOF);
        Check.faultAtLast(THEOREM + "( ) AAAAAAAA AAAAAAAA A", ROOM);
    }

    private static void taggedAsTheyWere() {
        Check.sentence("Which are put on the stack as they were.");
        String start = START + "${ e $e a x $. kk $a b x $. $} ";
        Check.reads(start + "l $p a x x x $= ( k2 ) AZ AB CB $.", 5);
        Check.reads(start + "l $p a x x $= ( k2 ) AZ CBZ $.", 5);
        // The place on the stack has long been used for others when it is put there again.
        Check.reads(start + "l $p a x x x x x x $= ( k2 ) AABZ AB CB AB $.", 5);
        Check.faultAtLast(start + "l $p a x x $= ( k2 ) AABZ C $.", STACK);
        // The longest expression, whole.
        String longest = start + "n $a a " + Check.times(23, "x") + "$. l $p b " + Check.times(23, "x");
        Check.reads(longest + "$= ( n kk ) ABZ DC $.", 6);
        // It is apart, or not, as what it was made of.
        String apart = START + "${ $d x y $. n $a a x y $. $} ";
        Check.faultAtLast(apart + "l $p a x x $= ( n ) AZCB", ProofLedger.APART);
        Check.reads(apart + "$d x y $. l $p a x y x $= ( n k2 ) AZBECD $.", 5);
    }

    private static void taggedOnAFullStack() {
        Check.sentence("A PROOF makes a STACK of expressions (at most 16: ROOM), with tagged ones, too.");
        Check.faultAtLast(THEOREM + "( ) AZ BBBBBBBB BBBBBBB $.", STACK);
        Check.faultAtLast(THEOREM + "( ) AZ BBBBBBBB BBBBBBBB", ROOM);
        ProofLedger x = Check.reads(START + "l $p a " + Check.times(16, "x") + "$= ( k2 ) AZ CCCCCCCC CCCCCCC "
            + "BBBBBBBB BBBBBBB $.", 4);
        Check.due("depth", x.depth(3), 16);
        Check.due("steps", x.steps(3), 31);
        Check.due("uses", x.uses(3, 2), 15);
    }

    private static void sixteenTagged() {
        Check.sentence("Z tags the expression that is on top of the stack (at most 16: ROOM).");
        String start = THEOREM + "( k1 ) A ";
        Check.reads(start + Check.times(16, "BZ") + "$.", 4);
        Check.faultAtLast(start + Check.times(17, "BZ"), ROOM);
        Check.faultAtLast(start + Check.times(16, "BZ") + "B Z", ROOM);
        Check.faultAtLast(start + Check.times(16, "BZ") + "R $.", STACK);
        Check.faultAtLast(start + Check.times(16, "BZ") + "S", PROOF);
        // The top is what was put there last, the 16th of the stack, too.
        Check.reads(START + "l $p a x x x x $= ( k2 ) AABZ CB $.", 4);
        Check.faultAtLast(THEOREM + "( ) AAAAAAAA AAAAAAAA Z $.", STACK);
        Check.faultAtLast(THEOREM + "( ) AAAAAAAA AAAAAAAA Z B", ROOM);
        // Each proof has as many of its own.
        Check.reads(start + Check.times(16, "BZ") + "$. m $p a x $= ( k1 ) A " + Check.times(16, "BZ") + "$.", 5);
        Check.faultAtLast(THEOREM + "( ) AZ $. m $p a x $= ( ) AB", PROOF);
    }

    private static void behindTheEndOfANumber() {
        Check.sentence("PROOF when the letter before is not the end of a number, or there is none.");
        String[] wrong = {"Z", "AZZ", "AZ Z", "AUZ", "AU Z", "AYZ", "?Z", "A?Z", "A? Z", "AZ?Z", "?AZZ", "?UZ"};
        for (String letters : wrong) {
            Check.faultAtLast(THEOREM + "( ) " + letters, PROOF);
        }
        String[] right = {"AZ", "A Z", "AZ?AZ", "?AZ", "? A Z"};
        for (String letters : right) {
            Check.unended(THEOREM + "( ) " + letters);
        }
        // The letter before stands in this proof, not in the one before.
        Check.faultAtLast(THEOREM + "( ) A $. m $p a x $= ( ) Z", PROOF);
        // PROOF for one that may not stand, though there is no room for it either.
        Check.faultAtLast(THEOREM + "( k1 ) A " + Check.times(16, "BZ") + "Z", PROOF);
    }

    private static void gapInsideANumber() {
        Check.sentence("A ? inside a number is PROOF.");
        String[] wrong = {"U?", "Y?", "AU?", "U ?", "AUU ?", "?U?", "? U ?"};
        for (String letters : wrong) {
            Check.faultAtLast(THEOREM + "( ) " + letters, PROOF);
        }
        String[] right = {"?", "A?", "AZ?", "??", "? ?", "?A?"};
        for (String letters : right) {
            Check.reads(THEOREM + "( ) " + letters + " $.", 4);
        }
    }

    private static void endInsideANumber() {
        Check.sentence("The end of the proof inside one (at the $.) is PROOF, too.");
        String[] wrong = {"U", "Y", "AU", "A U", "AZU", "AUUU", "AAU", "?U", "? U"};
        for (String letters : wrong) {
            Check.unended(THEOREM + "( ) " + letters);
            Check.faultAtLast(THEOREM + "( ) " + letters + " $.", PROOF);
        }
        // What was left inside a number does not go on in the next proof.
        ProofLedger x = Check.reading(THEOREM + "( ) AU $.");
        x.clear();
        Check.feed(x, THEOREM + "( ) A $.");
        Check.due("read", x.read(), 4);
    }

    private static void tagsBehindAGap() {
        Check.sentence("From the first ? on a Z tags nothing, but counts as one more of the tagged.");
        Check.reads(THEOREM + "( ) ?AZB $.", 4);
        Check.faultAtLast(THEOREM + "( ) ?AB", PROOF);
        Check.faultAtLast(THEOREM + "( ) ?AZC", PROOF);
        Check.reads(THEOREM + "( ) AZ?BZC $.", 4);
        Check.faultAtLast(THEOREM + "( ) AZ?BZD", PROOF);
        Check.faultAtLast(THEOREM + "( ) AZ?C", PROOF);
        Check.reads(THEOREM + "( ) ?AZBZ BZBZBZBZ BZBZBZBZ BZBZBZBZ BZBZ QQQ $.", 4);
        Check.faultAtLast(THEOREM + "( ) ?AZBZ BZBZBZBZ BZBZBZBZ BZBZBZBZ BZBZ R", PROOF);
        Check.faultAtLast(THEOREM + "( ) ?AZBZ BZBZBZBZ BZBZBZBZ BZBZBZBZ BZBZ BZ", ROOM);
        Check.faultAtLast(THEOREM + "( ) AZBZ BZBZBZBZ ? BZBZBZBZ BZBZBZBZ BZBZ BZ", ROOM);
        // The stack is not looked at: it would have no room, or too few.
        Check.reads(THEOREM + "( k2 ) ?AAAAAAA AAAAAAAA AAAAAAAA BBB $.", 4);
        Check.reads(THEOREM + "( k2 ) ?B Z C $.", 4);
        Check.reads(THEOREM + "( ) AZ? BBBBBBBB BBBBBBBB BBBBBBBB $.", 4);
    }

    private static void ends() {
        Check.sentence("At the end there must be one expression on the stack (STACK), the theorem's own (MATCH).");
        Check.reads(THEOREM + "( ) A $.", 4);
        Check.faultAtLast(THEOREM + "( ) $.", STACK);
        Check.faultAtLast(THEOREM + "( ) AA $.", STACK);
        Check.faultAtLast(THEOREM + "( ) AZB $.", STACK);
        Check.faultAtLast(THEOREM + "( fy ) B $.", MATCH);
        Check.faultAtLast(THEOREM + "( fy ) AB $.", STACK);
        Check.reads(THEOREM + "( fy ) B? $.", 4);
        Check.faultAtLast(THEOREM + "( k2 ) B", STACK);
        Check.faultAtLast(THEOREM + "( k2 ) AB", STACK);
    }
}
