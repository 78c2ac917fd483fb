/**
 * The boundary cases of promises 4 and 5, read and place: words, comments, scopes and ends. Each method
 * holds to one sentence of the document.
 */
public final class ReadBoundaryTest {
    private static final int NAME = ProofLedger.NAME;
    private static final int ROOM = ProofLedger.ROOM;
    private static final int SCOPE = ProofLedger.SCOPE;
    private static final int UNENDED = ProofLedger.UNENDED;
    private static final int WORD = ProofLedger.WORD;
    // Statements of each kind, of which those behind the $v stand in a scope.
    private static final String ALL = "$c a b $. $v x y $. ${ $d x y $. f $f a x $. h $e b x $. l $a a x $. "
        + "m $p b x $= h $. n $p b x $= ( l ) B $. $}";

    private ReadBoundaryTest() {
    }

    public static void main(String[] args) {
        wordsAreRuns();
        wordsHaveNumbers();
        longWords();
        commentsEndAtTheNext();
        commentsAreNumbered();
        commentsStandAnywhere();
        commentEndsOutside();
        namesHaveNoDollar();
        keywords();
        firstFaultEnds();
        declaredBeforeStays();
        unendedAtEveryWord();
        unendedPlace();
        sixScopes();
        scopeThatIsNotOpen();
        latestScopeIsClosed();
        activeUpToTheEnd();
        forGood();
        wordsThatCantStand();
        readForgets();
        readForgetsWhereItEnded();
        readAnswers();
        Check.end();
    }

    private static void wordsAreRuns() {
        Check.sentence("Its WORDS are the runs of characters without spaces.");
        Check.reads("", 0);
        Check.reads(" ", 0);
        Check.reads(" ".repeat(1600), 0);
        Check.reads("$c a $.", 0);
        Check.reads("   $c     a  $.   ", 0);
        Check.reads(" ".repeat(1593) + "$c a $.", 0);
        Check.reads("$c a $." + " ".repeat(1593), 0);
        Check.due("one constant", Check.reads("$c a.b,c $.", 0).count(0), 1);
        Check.faultAt("$ca $.", WORD, 0);
        Check.faultAt("$c a$.", WORD, 1);
        Check.faultAt("$c a $.$c", WORD, 2);
    }

    private static void wordsHaveNumbers() {
        Check.sentence("Its WORDS are numbered 0, 1, ..; its PLACE is the number of the word at which it was met.");
        Check.faultAt("$}", SCOPE, 0);
        Check.faultAt("     $}     ", SCOPE, 0);
        Check.faultAt("${ $} $}", SCOPE, 2);
        Check.faultAt("$c  a   $.    $}", SCOPE, 3);
        Check.faultAt("x ".repeat(800), WORD, 1);
        // The last word of a full text.
        Check.faultAt("$( " + "x ".repeat(796) + "$) $}", SCOPE, 798);
    }

    private static void longWords() {
        Check.sentence("A word with more than 8 characters is a fault, WORD, when it is come to.");
        String[] beginnings = {"", "$c", "$c a", "$v", "$v x", "$c a $. l", "$c a $. l $f", "$c a $. l $e", "$c a $. l $a",
            "$c a $. l $a a", "$c a $. $v x y $. $d", "$c a $. $v x y $. $d x", "$c a $. $v x $. l $f a",
            "$c a $. $v x $. l $f a x", "$c a $. l $p a $=", "$c a $. l $p a $= ?", "$c a $. l $p a $= (",
            "$c a $. l $p a $= ( )", "$c a $. l $p a $= ( ) ?"};
        String[] words = {"abcdefghi", "$abcdefgh", "abcdefgh$", "?????????", "x".repeat(10), "x".repeat(11),
            "x".repeat(64), "x".repeat(128), "x".repeat(1500)};
        for (String beginning : beginnings) {
            for (String word : words) {
                Check.faultAtLast(beginning + " " + word, WORD);
            }
        }
        Check.reads("$c abcdefgh $. $v ABCDEFGH $. 12345678 $f abcdefgh ABCDEFGH $. "
            + "87654321 $p abcdefgh ABCDEFGH $= 12345678 $.", 1);
        Check.reads("$c a $. h $e a $. l $p a $= ( ) ???????? $.", 1);
        // It is not come to behind another fault.
        Check.faultAt("$} abcdefghi", SCOPE, 0);
        Check.faultAt("$c a a abcdefghi", NAME, 2);
    }

    private static void commentsEndAtTheNext() {
        Check.sentence("A COMMENT goes from a word $( to the next word $) and counts for nothing.");
        Check.reads("$( $)", 0);
        Check.reads("$( $) $( $)", 0);
        Check.due("behind it", Check.reads("$( $( $( $) $c a $.", 0).count(0), 1);
        Check.due("inside of it", Check.reads("$( $c a $. $)", 0).count(0), 0);
        Check.due("other words", Check.reads("$( $)) x$) $)$) $ ) $c a $. $) $c b c $.", 0).count(0), 2);
        Check.reads("$( ${ $} $} $. $= $c $x q $)", 0);
        Check.faultAt("$(x $)", WORD, 0);
        Check.faultAt("x$( $)", WORD, 0);
    }

    private static void commentsAreNumbered() {
        Check.sentence("Its words have numbers all the same, and may be long.");
        Check.faultAt("$( abcdefghi " + "x".repeat(1000) + " $) $}", SCOPE, 4);
        Check.faultAt("$( $) $}", SCOPE, 2);
        Check.faultAt("$c a $( b c d $) a", NAME, 7);
        Check.reads("$( " + "x".repeat(1594) + " $)", 0);
        Check.faultAt("$( " + "x".repeat(1597), UNENDED, 2);
    }

    private static void commentsStandAnywhere() {
        Check.sentence("It may stand anywhere, in statements and proofs, too.");
        String[] words = (ALL + " o $p a $= ( l ) ?").split(" ");
        String comment = "$( abcdefghi $. $( ? $)";
        for (int gap = 0; gap <= words.length; gap++) {
            StringBuilder text = new StringBuilder();
            for (int i = 0; i <= words.length; i++) {
                text.append(i == gap ? comment + " " : "").append(i < words.length ? words[i] + " " : "$. $}");
            }
            ProofLedger x = Check.faultAtLast(text.toString(), SCOPE);
            Check.due("theorems with a comment at " + gap, x.count(5), 3);
            Check.due("its only gap", x.count(6), 1);
            Check.due("steps", x.steps(1) + x.steps(2), 2);
        }
        // A number that is parted by comments is one number.
        String axioms = "$c a $. " + Check.times(20, "l# $a a $.") + "h $e a $. m $p a $= ( " + Check.times(20, "l#") + ") ";
        ProofLedger x = Check.reads(axioms + "$( A $) U $( B $) $( Z $) A $( $) $.", 21);
        Check.due("the 21st of them", x.uses(20, 19), 1);
    }

    private static void commentEndsOutside() {
        Check.sentence("A $) outside of one is a fault, WORD.");
        Check.faultAt("$)", WORD, 0);
        Check.faultAt("$( $) $)", WORD, 2);
        Check.faultAt("$( $( $) $)", WORD, 3);
        String[] words = ALL.split(" ");
        StringBuilder before = new StringBuilder();
        for (String word : words) {
            before.append(word).append(' ');
            Check.faultAtLast(before + "$)", WORD);
        }
    }

    private static void namesHaveNoDollar() {
        Check.sentence("A NAME is a word without a $.");
        for (char c = 33; c <= 126; c++) {
            if (c == '$') {
                Check.faultAtLast("$c $", WORD);
                continue;
            }
            ProofLedger x = Check.reads("$c " + c + " $. l" + c + " $a " + c + " $.", 1);
            Check.due("symbol " + c, x.symbol(0, 0), c);
            Check.due("label l" + c, x.label(0), Check.code("l" + c));
            Check.faultAtLast("$c " + c + "$", WORD);
            Check.faultAtLast("$c $" + c + c, WORD);
        }
        Check.faultAtLast("$c abcdefg$", WORD);
        Check.faultAtLast("$c abc$efgh", WORD);
        Check.faultAtLast("$abcdefg", WORD);
    }

    private static void keywords() {
        Check.sentence("KEYWORDS are $c $v $d $f $e $a $p $= $. ${ $}");
        for (char c = 33; c <= 126; c++) {
            String word = "$" + c;
            boolean opens = "cvd{(".indexOf(c) >= 0;
            Check.faultAt(word, opens ? UNENDED : c == '}' ? SCOPE : WORD, opens ? 1 : 0);
            boolean kind = "feap(".indexOf(c) >= 0;
            Check.faultAt("$c a $. l " + word, kind ? UNENDED : WORD, kind ? 5 : 4);
            boolean end = c == '=' || c == '(';
            Check.faultAt("$c a $. l $p a " + word, end ? UNENDED : WORD, end ? 7 : 6);
        }
        Check.faultAt("$C a $.", WORD, 0);
        Check.faultAt("$cc a $.", WORD, 0);
        Check.faultAt("$", WORD, 0);
    }

    private static void firstFaultEnds() {
        Check.sentence("The first fault that is met ends it.");
        ProofLedger x = Check.faultAt("$c a a b c $. $v x $. l $a a $. $} $)", NAME, 2);
        int[] counts = {1, 0, 0, 0, 0, 0, 0};
        for (int what = 0; what < counts.length; what++) {
            Check.due("count " + what, x.count(what), counts[what]);
        }
        Check.faultAt("$} ${ $(", SCOPE, 0);
        // An end that is missing is met behind all other faults.
        Check.faultAt("${ $c a", SCOPE, 1);
        Check.faultAt("${ $v x x", NAME, 3);
    }

    private static void declaredBeforeStays() {
        Check.sentence("What was declared before it stays.");
        ProofLedger x = Check.faultAtLast("$c a b $. $v x y $. f $f a x $. h $e a x $. l $a a x $. m $p a x $= h $. "
            + "n $p a $= ? $. g $f a y $. $c c d $. $v z u u", NAME);
        int[] counts = {4, 4, 2, 1, 1, 2, 1};
        for (int what = 0; what < counts.length; what++) {
            Check.due("count " + what, x.count(what), counts[what]);
        }
        Check.due("an assertion", x.label(2), 'n');
        Check.due("a proof", x.steps(1), 1);
        // What the faulty statement itself began with is not declared.
        ProofLedger y = Check.faultAtLast("$c a $. l $a a $. m $p a $= l l $.", ProofLedger.STACK);
        Check.due("no theorem", y.count(5), 0);
        Check.due("no second assertion", y.label(1), ProofLedger.NONE);
    }

    private static void unendedAtEveryWord() {
        Check.sentence("UNENDED is met when the text is at its end inside a statement or comment, or a scope is open then.");
        String[] words = ALL.split(" ");
        StringBuilder text = new StringBuilder();
        for (int n = 0; n <= words.length; n++) {
            boolean ended = n == 0 || n == 4 || n == 8 || n == words.length;
            if (ended) {
                Check.reads(text.toString(), n == words.length ? 3 : 0);
            } else {
                Check.faultAt(text.toString(), UNENDED, n);
                Check.faultAt(text + "$( c $) ", UNENDED, n + 3);
            }
            Check.faultAt(text + "$(", UNENDED, n + 1);
            text.append(n < words.length ? words[n] + " " : "");
        }
    }

    private static void unendedPlace() {
        Check.sentence("Its place is the number of all words.");
        Check.faultAt("$(", UNENDED, 1);
        Check.faultAt("  ${   ", UNENDED, 1);
        Check.faultAt("${ $( a b c $)", UNENDED, 6);
        Check.faultAt("$( " + "x ".repeat(798) + "x", UNENDED, 800);
        ProofLedger x = Check.unended("$c a b $. ${ l $a a $. $v x y");
        Check.due("constants stay", x.count(0), 2);
        Check.due("variables stay", x.count(1), 2);
        Check.due("axioms stay", x.count(4), 1);
    }

    private static void sixScopes() {
        Check.sentence("At most 6 are open (ROOM at the ${).");
        for (int n = 0; n <= 6; n++) {
            Check.reads(Check.times(n, "${") + Check.times(n, "$}"), 0);
        }
        Check.faultAt(Check.times(6, "${"), UNENDED, 6);
        Check.faultAt(Check.times(7, "${") + Check.times(7, "$}"), ROOM, 6);
        // Those that were closed do not count.
        Check.reads(Check.times(50, "${ $}"), 0);
        Check.reads(Check.times(6, "${") + Check.times(20, "$} ${") + Check.times(6, "$}"), 0);
        Check.faultAtLast(Check.times(6, "${") + "$} ${ ${", ROOM);
        Check.due("the sixth scope's axiom", Check.reads("$c a $. " + Check.times(6, "${") + "l $a a $. "
            + Check.times(6, "$}"), 1).label(0), 'l');
    }

    private static void scopeThatIsNotOpen() {
        Check.sentence("$} when none is: SCOPE.");
        Check.faultAt("$}", SCOPE, 0);
        Check.faultAt("${ $} $}", SCOPE, 2);
        Check.faultAtLast(Check.times(6, "${") + Check.times(7, "$}"), SCOPE);
        // One that an earlier text left open is not open.
        ProofLedger x = Check.reading("${ ${");
        x.clear();
        Check.feed(x, "$}");
        Check.due("read", x.read(), SCOPE);
    }

    private static void latestScopeIsClosed() {
        Check.sentence("${ opens one, $} closes the latest one that is open.");
        String inner = "${ $v x $. ${ $v y $. ";
        Check.faultAtLast(inner + "$v y", NAME);
        Check.faultAtLast(inner + "$} $v x", NAME);
        Check.reads(inner + "$} $v y $. $}", 0);
        Check.reads(inner + "$} $} $v x y $.", 0);
        // A scope that was opened anew does not bring back what the one before it had.
        Check.faultAtLast("$c a $. ${ $v x $. $} ${ l $e a x", NAME);
    }

    private static void activeUpToTheEnd() {
        Check.sentence("What is said below to be ACTIVE is so up to the end of the scope in which it was declared.");
        String start = "$c a $. $v x y $. ";
        Check.reads(start + "${ f $f a x $. ${ l $a a x $. $} m $a a x $. $}", 2);
        Check.faultAtLast(start + "${ f $f a x $. $} l $a a x", NAME);
        Check.faultAtLast(start + "f $f a x $. ${ g $f a x", NAME);
        Check.reads(start + "${ f $f a x $. $} ${ g $f a x $. $} h $f a x $.", 0);
        Check.reads("${ $v x $. $} $v x $.", 0);
        Check.faultAtLast("${ $v x $. $} $v y $. $d y x", NAME);
        Check.reads(start + "${ h $e a $. ${ l $p a $= h $. $} $}", 1);
        Check.faultAtLast(start + "${ h $e a $. $} l $p a $= h", ProofLedger.PROOF);
        Check.faultAtLast(start + "${ f $f a x $. $} l $p a $= f", ProofLedger.PROOF);
        ProofLedger x = Check.reads(start + "f $f a x $. g $f a y $. ${ $d x y $. ${ l $a a x y $. $} $} m $a a x y $.", 2);
        Check.due("pairs inside", x.pairs(0), 1);
        Check.due("pairs outside", x.pairs(1), 0);
    }

    private static void forGood() {
        Check.sentence("Constants, axioms and theorems are for good.");
        Check.reads("$c a $. ${ ${ h $e a $. l $p a $= h $. $} m $a a $. $} ${ $} n $p a $= m l $. o $p a $= n $.", 4);
        Check.faultAtLast("$c a $. ${ $} $c a", NAME);
        Check.faultAtLast("$c a $. ${ l $a a $. $} l", NAME);
    }

    /** Words that can't stand behind any beginning of a statement, and those that can behind one alone. */
    private static void wordsThatCantStand() {
        Check.sentence("A word that can't stand where it does is a fault, WORD.");
        String start = "$c a b $. $v x y $. f $f a x $. ";
        String[] beginnings = {"$c", "$c q", "$v", "$v z", "$d", "$d x", "$d x y", "l", "l $f", "l $f a", "l $f a y",
            "l $e", "l $e a", "l $e a x", "l $a", "l $a a", "l $p", "l $p a", "l $p a x $=", "l $p a x $= f",
            "l $p a x $= (", "l $p b $= ( f", "l $p a x $= ( )", "l $p a x $= ( ) A"};
        String[] ends = {"", "$.", "", "$.", "", "", "$.", "$f $e $a $p", "", "", "$.",
            "", "$.", "$.", "", "$.", "", "$=", "$.", "$.", "", "", "$.", "$."};
        String[] words = {"$c", "$v", "$d", "$f", "$e", "$a", "$p", "$=", "$.", "${", "$}", "$)", "$", "$$", "$x", "q$"};
        for (int i = 0; i < beginnings.length; i++) {
            for (String word : words) {
                String text = start + beginnings[i] + " " + word;
                boolean can = (" " + ends[i] + " ").contains(" " + word + " ");
                Check.due("'" + text + "' is WORD", Check.reading(text).read() == WORD, !can);
                Check.due("place of WORD in '" + text + "'", Check.reading(text).place() == Check.words(text) - 1
                    || can, true);
            }
        }
        Check.faultAtLast(start + "l $f a y x", WORD);
        Check.faultAtLast(start + "l l", WORD);
        Check.faultAtLast(start + "l a", WORD);
    }

    private static void readForgets() {
        Check.sentence("Reads the text, from its beginning; what was read before is forgotten. (The text stays.)");
        ProofLedger x = Check.reading(ALL);
        for (int i = 0; i < 3; i++) {
            Check.due("the same text again", x.read(), 3);
            Check.due("constants", x.count(0), 2);
            Check.due("variables", x.count(1), 2);
        }
        Check.due("the text is there", x.clear(), ALL.length());
        Check.due("nothing to read", x.read(), 0);
        for (int what = 0; what <= 6; what++) {
            Check.due("count " + what, x.count(what), 0);
        }
        Check.due("no label", x.label(0), ProofLedger.NONE);
        Check.feed(x, "$}");
        Check.due("a fault", x.read(), SCOPE);
        x.clear();
        Check.due("the fault stays up to the next read", x.place(), 0);
        x.read();
        Check.due("the fault is forgotten", x.place(), ProofLedger.NONE);
    }

    /** The same words mean what they mean in a new object, whatever the text before made of them. */
    private static void readForgetsWhereItEnded() {
        Check.sentence("What was read before is forgotten.");
        String[] before = {"$( c", "${ ${", "$c q", "$v q", "$v q p $. $d q", "$c q $. p", "$c q $. p $p q $= ?",
            "$c q $. p $p q $= ( ) ?U", "$c a $. h $e a $. i $e a $. l $p a $= ( ) AZBZ?Z", "$v a b $. $c x y $. l $a x $.",
            ALL + " $}", "$c a b $. $v x y $. m $f a x $. l $f b y $. n $e a x y $. h $p b y $= l $. f $p b $= ? $.",
            "$c " + Check.times(61, "c#"), "$v a b $. " + Check.times(40, "$d a b $.") + "$d a b",
            "$c a $. " + Check.times(40, "l# $a a $.") + "q"};
        for (String text : before) {
            ProofLedger x = Check.reading(text);
            x.clear();
            Check.feed(x, ALL);
            Check.due("read after '" + text + "'", x.read(), 3);
            Check.due("place", x.place(), ProofLedger.NONE);
            int[] counts = {2, 2, 1, 1, 1, 2, 0};
            for (int what = 0; what < counts.length; what++) {
                Check.due("count " + what + " after '" + text + "'", x.count(what), counts[what]);
            }
            for (int k = 0; k < 3; k++) {
                Check.due("label of " + k, x.label(k), 'l' + k);
                Check.due("pairs of " + k, x.pairs(k), 0);
                Check.due("steps of " + k, x.steps(k), k == 0 ? 0 : 1);
                Check.due("depth of " + k, x.depth(k), k == 0 ? 0 : 1);
                Check.due("uses of " + k, x.uses(k, 0) + x.uses(k, 1) + x.uses(k, 2), 0);
                Check.due("proved " + k, x.proved(k), true);
                Check.due("hypotheses of " + k, x.hypothesis(k, 1), 'h');
                Check.due("no more hypotheses of " + k, x.hypothesis(k, 2), ProofLedger.NONE);
            }
        }
    }

    private static void readAnswers() {
        Check.sentence("Answers how many assertions there are, or the fault.");
        Check.reads("$c a $. h $e a $. $v x $. f $f a x $.", 0);
        Check.reads("$c a $. h $e a $. l $a a $.", 1);
        Check.reads("$c a $. l $p a $= ? $.", 1);
        Check.reads("$c a $. " + Check.times(20, "l# $a a $.") + Check.times(20, "m# $p a $= l0 $."), 40);
        Check.sentence("The place of the fault that the latest read() met; NONE when it met none.");
        ProofLedger x = Check.reading("$c a $. $}");
        Check.due("place", x.place(), 3);
        Check.due("place again", x.place(), 3);
        x.clear();
        Check.feed(x, "$c a a");
        Check.due("place before it is read", x.place(), 3);
        x.read();
        Check.due("place of the latest", x.place(), 2);
    }
}
