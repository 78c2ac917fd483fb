/** Promises 4 and 5, read and place: words, comments, scopes, and what can stand where. */
public final class WordsTest {
    private static final String START = "$c a $. $v x y $. fx $f a x $. ";
    private static final String[] MARKED = {
        "$c", "$v", "$d", "$f", "$e", "$a", "$p", "$=", "$.", "${", "$}", "$)", "$", "$$", "$x", "a$", "a$b", "$c$", "$(a"
    };

    private WordsTest() {
    }

    public static void main(String[] args) {
        readAgain();
        longWords();
        comments();
        scopes();
        beginnings();
        wordsThatCantStand();
        unendedTexts();
        Check.end();
    }

    private static void readAgain() {
        ProofLedger x = new ProofLedger();
        Check.due("nothing", x.read(), 0);
        Check.feed(x, "$c a $. l $a a $. ");
        Check.due("one", x.read(), 1);
        Check.due("the text stays", x.read(), 1);
        Check.due("constants are not told twice", x.count(0), 1);
        Check.feed(x, "m $a a $. l");
        Check.due("fault", x.read(), ProofLedger.NAME);
        Check.due("its place", x.place(), 11);
        Check.due("what was declared stays", x.count(4), 2);
        Check.due("the same again", x.read(), ProofLedger.NAME);
        Check.due("the same place", x.place(), 11);
        x.clear();
        Check.due("the place stays", x.place(), 11);
        Check.feed(x, "   $c     a $.");
        Check.due("no fault", x.read(), 0);
        Check.due("no place", x.place(), ProofLedger.NONE);
        Check.due("no axiom any more", x.count(4), 0);
    }

    private static void longWords() {
        Check.reads("$c 12345678 $. abcdefgh $a 12345678 $.", 1);
        Check.faultAtLast("$c 123456789", ProofLedger.WORD);
        Check.faultAtLast("abcdefghi", ProofLedger.WORD);
        Check.faultAtLast("$aaaaaaaa", ProofLedger.WORD);
        Check.faultAtLast(START + "l abcdefghi", ProofLedger.WORD);
        Check.faultAtLast(START + "l $f abcdefghi", ProofLedger.WORD);
        Check.faultAtLast(START + "l $f a abcdefghi", ProofLedger.WORD);
        Check.faultAtLast(START + "l $d x abcdefghi".substring(2), ProofLedger.WORD);
        Check.faultAtLast(START + "l $a a abcdefghi", ProofLedger.WORD);
        Check.faultAtLast(START + "l $p a $= abcdefghi", ProofLedger.WORD);
        Check.faultAtLast(START + "l $p a $= ( abcdefghi", ProofLedger.WORD);
        Check.faultAtLast(START + "l $p a $= ( ) ?????????", ProofLedger.WORD);
        // A long word whose first or last characters are those of another word is not that word.
        Check.faultAtLast("$c a $. l $a a $. m $p a $= lllllllll", ProofLedger.WORD);
    }

    private static void comments() {
        Check.reads("$( $)", 0);
        Check.reads("$( $( $c a verylongword $x $. $} $) $c a $.", 0);
        ProofLedger x = Check.reads(
            "$c $( b $) a $( $) $( q $) $. l $( $) $a $( $= $) a $( a $) $. $( z $) m $p a $= $( ( $) l $( ? $) $.", 2);
        Check.due("constants", x.count(0), 1);
        Check.due("incomplete", x.count(6), 0);
        Check.due("steps", x.steps(1), 1);
        ProofLedger y = Check.reads("$c a $. l $a a $. m $p a $= $( x $) ( $( ) $) l $( $) ) $( Z $) A $( ? $) $.", 2);
        Check.due("compressed steps", y.steps(1), 1);
        Check.faultAtLast("$( a b $) $( $) $c a a", ProofLedger.NAME);
        Check.faultAtLast("$( $) $)", ProofLedger.WORD);
        Check.faultAtLast("$( $( $) $)", ProofLedger.WORD);
        Check.faultAtLast("$c a $)", ProofLedger.WORD);
        Check.faultAtLast("$(x", ProofLedger.WORD);
        Check.unended("$(");
        Check.unended("$( a $)b c$) $ ) $(");
        Check.unended("$c a $. $( verylongword");
    }

    private static void scopes() {
        Check.reads("${ $}", 0);
        Check.reads("${ ${ $} ${ $} $} ${ $}", 0);
        Check.faultAtLast("$}", ProofLedger.SCOPE);
        Check.faultAtLast("${ $} $}", ProofLedger.SCOPE);
        Check.faultAtLast("${ $c", ProofLedger.SCOPE);
        Check.faultAtLast("${ ${ $} $c", ProofLedger.SCOPE);
        Check.reads("${ $} $c a $.", 0);
        Check.unended("${");
        Check.unended("${ ${ $}");
        Check.reads(Check.times(6, "${") + Check.times(6, "$}") + Check.times(6, "${") + Check.times(6, "$}"), 0);
        Check.faultAtLast(Check.times(7, "${"), ProofLedger.ROOM);
        Check.faultAtLast("${ $} " + Check.times(7, "${"), ProofLedger.ROOM);
    }

    private static void beginnings() {
        for (String word : MARKED) {
            boolean opens = word.equals("$c") || word.equals("$v") || word.equals("$d") || word.equals("${");
            if (opens) {
                Check.unended(START + word);
            } else {
                Check.faultAtLast(START + word, word.equals("$}") ? ProofLedger.SCOPE : ProofLedger.WORD);
            }
        }
    }

    /** After each of these beginnings of statements the words with a $ that are named may stand, and no others. */
    private static void wordsThatCantStand() {
        onlyMayStand("$c");
        onlyMayStand("$c b", "$.");
        onlyMayStand("$v");
        onlyMayStand("$v z", "$.");
        onlyMayStand("$d");
        onlyMayStand("$d x");
        onlyMayStand("$d x y", "$.");
        onlyMayStand("l", "$f", "$e", "$a", "$p");
        onlyMayStand("l $f");
        onlyMayStand("l $f a");
        onlyMayStand("l $f a y", "$.");
        onlyMayStand("l $e");
        onlyMayStand("l $e a", "$.");
        onlyMayStand("l $e a x a", "$.");
        onlyMayStand("l $a");
        onlyMayStand("l $a a", "$.");
        onlyMayStand("l $p");
        onlyMayStand("l $p a", "$=");
        onlyMayStand("l $p a x", "$=");
        onlyMayStand("l $p a x $= ?", "$.");
        onlyMayStand("l $p a x $= fx", "$.");
        onlyMayStand("l $p a x $= (");
        onlyMayStand("l $p a a $= ( fx");
        onlyMayStand("l $p a x $= ( ) ?", "$.");
        onlyMayStand("l $p a x $= ( ) A", "$.");
        Check.faultAtLast(START + "l a", ProofLedger.WORD);
        Check.faultAtLast(START + "l q", ProofLedger.WORD);
        Check.faultAtLast(START + "l $f a y x", ProofLedger.WORD);
        Check.faultAtLast(START + "l $f a y q", ProofLedger.WORD);
    }

    private static void onlyMayStand(String beginning, String... allowed) {
        for (String word : MARKED) {
            boolean may = java.util.Arrays.asList(allowed).contains(word);
            ProofLedger x = new ProofLedger();
            Check.feed(x, START + beginning + " " + word);
            int answer = x.read();
            if (may) {
                Check.due(beginning + " " + word + " may stand", answer == ProofLedger.WORD, false);
            } else {
                Check.due(beginning + " " + word, answer, ProofLedger.WORD);
                Check.due(beginning + " " + word + ": place", x.place(), Check.words(START + beginning));
            }
        }
    }

    private static void unendedTexts() {
        Check.unended("$c");
        Check.unended("$c a");
        Check.unended("$v x");
        Check.unended(START + "$d x y");
        Check.unended(START + "l");
        Check.unended(START + "l $f");
        Check.unended(START + "l $f a");
        Check.unended(START + "l $f a y");
        Check.unended(START + "l $e a");
        Check.unended(START + "l $p a");
        Check.unended(START + "l $p a $=");
        Check.unended(START + "l $p a $= ?");
        Check.unended(START + "l $p a x $= fx");
        Check.unended(START + "l $p a $= (");
        Check.unended(START + "l $p a $= ( )");
        Check.unended(START + "l $p a $= ( ) ?");
        Check.unended(START + "${ l $a a $.");
        Check.unended(START + "l $a a $( $. $) ");
        ProofLedger x = Check.unended("$c a b $. $v x y");
        Check.due("constants before the end", x.count(0), 2);
        Check.due("variables before the end", x.count(1), 2);
    }
}
