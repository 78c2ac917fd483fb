/**
 * The boundary cases of promises 4 and 6, read and count: how many names and statements there are, and what
 * each statement may hold. Each method holds to one sentence of the document.
 */
public final class StatementBoundaryTest {
    private static final int KIND = ProofLedger.KIND;
    private static final int NAME = ProofLedger.NAME;
    private static final int ROOM = ProofLedger.ROOM;
    private static final int SCOPE = ProofLedger.SCOPE;
    private static final int WORD = ProofLedger.WORD;
    // Of each role of a name one: constant, variable with and without a type, one that was a variable, labels.
    private static final String START = "$c a b $. ${ $v w $. u $f a w $. k $e a w $. $} $v x y $. f $f a x $. "
        + "h $e a x $. l $a a x $. m $p a x $= h $. ";
    private static final String[] LABELS = {"u", "k", "f", "h", "l", "m"};
    private static final String[] EXPRESSIONS = {"$e", "$a", "$p"};

    private StatementBoundaryTest() {
    }

    public static void main(String[] args) {
        sixtyNames();
        differentWords();
        fortyStatements();
        roomAtTheLabel();
        nameBeforeRoom();
        oneOrMoreConstants();
        constantsInScopes();
        namesOfConstants();
        oneOrMoreVariables();
        namesOfVariables();
        twoOrMoreApart();
        namesOfApart();
        fortyPairs();
        orderAtApart();
        typesOfFloating();
        variablesOfFloating();
        typesOfExpressions();
        namesOfExpressions();
        twentyFourSymbols();
        namesOfLabels();
        kindsBehindLabels();
        declaredAtItsEnd();
        Check.end();
    }

    private static void sixtyNames() {
        Check.sentence("Names that were declared are at most 60: ROOM at the word that is too much.");
        Check.due("60 constants", Check.reads("$c " + Check.times(60, "c#") + "$.", 0).count(0), 60);
        Check.due("61 constants", Check.faultAtLast("$c " + Check.times(61, "c#"), ROOM).count(0), 60);
        Check.due("60 variables", Check.reads("$v " + Check.times(60, "v#") + "$.", 0).count(1), 60);
        Check.due("61 variables", Check.faultAtLast("$v " + Check.times(61, "v#"), ROOM).count(1), 60);
        String most = "$c " + Check.times(29, "c#") + "$. $v " + Check.times(29, "v#") + "$. l $a c0 $. ";
        Check.reads(most + "$c q $.", 1);
        Check.reads(most + "$v q $.", 1);
        Check.reads(most + "q $e c0 $.", 1);
        String[] last = {"$c q $. ", "$v q $. ", "q $f c0 v0 $. ", "q $e c0 $. ", "q $a c0 $. ", "q $p c0 $= l $. "};
        for (String full : last) {
            Check.faultAtLast(most + full + "$c r", ROOM);
            Check.faultAtLast(most + full + "$v r", ROOM);
            Check.faultAtLast(most + full + "r", ROOM);
            Check.faultAtLast(most + full + "$d v0 v1 $. $}", SCOPE);
        }
    }

    private static void differentWords() {
        Check.sentence("Names that were declared (different words, as constants, variables or labels).");
        Check.due("one variable", Check.reads(Check.times(70, "${ $v x $. $}"), 0).count(1), 1);
        String full = "$c " + Check.times(58, "c#") + "$. ${ $v x y $. $} ";
        Check.reads(full + "$v x $. ${ $v y $. $} $v y $.", 0);
        Check.faultAtLast(full + "$v x y z", ROOM);
        // A label that was only begun with is not declared.
        Check.due("none of it", Check.faultAtLast("$c a $. l $a b", NAME).count(4), 0);
    }

    private static void fortyStatements() {
        Check.sentence("Statements with labels are at most 40: ROOM at the word that is too much.");
        String axioms = "$c a $. $v x $. " + Check.times(39, "l# $a a $.");
        String[] last = {"m $f a x $. ", "m $e a $. ", "m $a a $. ", "m $p a $= l0 $. "};
        int[] assertions = {39, 39, 40, 40};
        for (int i = 0; i < last.length; i++) {
            Check.reads(axioms + last[i], assertions[i]);
            Check.faultAtLast(axioms + last[i] + "q", ROOM);
            // What has no label has room.
            Check.reads(axioms + last[i] + "$c b $. $v y $. $d x y $. ${ $}", assertions[i]);
        }
        Check.due("the 40th label", Check.reads(axioms + "m $a a $.", 40).label(39), 'm');
        // Those that are active no more count all the same.
        String hypotheses = "$c a $. " + Check.times(40, "${ h# $e a $. $}");
        Check.due("40 hypotheses", Check.reads(hypotheses, 0).count(3), 40);
        Check.faultAtLast(hypotheses + "q", ROOM);
    }

    private static void roomAtTheLabel() {
        Check.sentence("Of a statement: its label, before what stands behind it is looked at.");
        String statements = "$c a $. " + Check.times(40, "l# $a a $.");
        String names = "$c " + Check.times(60, "c#") + "$. ";
        String[] behind = {"", " q", " $x", " $.", " $a", " $a q", " $a a $.", " abcdefghi", " $}"};
        for (String words : behind) {
            Check.faultAt(statements + "q" + words, ROOM, Check.words(statements));
            Check.faultAt(names + "q" + words, ROOM, Check.words(names));
        }
        Check.faultAtLast(statements + "abcdefghi", WORD);
        Check.faultAtLast(names + "q$", WORD);
    }

    private static void nameBeforeRoom() {
        Check.sentence("Wherever NAME and ROOM can be met at a word, NAME is met.");
        String names = "$c " + Check.times(56, "c#") + "$. ${ $v w $. $} $v x y $. f $f c0 x $. ";
        String[] known = {"c0", "c55", "x", "y", "f"};
        for (String name : known) {
            Check.faultAtLast(names + "$c " + name, NAME);
            Check.faultAtLast(names + "$v " + name, NAME);
            Check.faultAtLast(names + name, NAME);
        }
        Check.faultAtLast(names + "$c w", NAME);
        Check.faultAtLast(names + "w", NAME);
        Check.faultAtLast(names + "$v w w", NAME);
        String statements = "$c a $. $v x $. " + Check.times(40, "l# $a a $.");
        Check.faultAtLast(statements + "a", NAME);
        Check.faultAtLast(statements + "x", NAME);
        Check.faultAtLast(statements + "l0", NAME);
        Check.faultAtLast(statements + "l39", NAME);
        for (String kind : EXPRESSIONS) {
            Check.faultAtLast("$c a $. $v x $. l " + kind + " " + Check.times(24, "a") + "q", NAME);
            Check.faultAtLast("$c a $. $v x $. l " + kind + " " + Check.times(24, "a") + "x", NAME);
        }
    }

    private static void oneOrMoreConstants() {
        Check.sentence("$c names $. One or more constants, each declared when it is come to.");
        Check.faultAtLast("$c $.", WORD);
        Check.due("one", Check.reads("$c a $.", 0).count(0), 1);
        Check.due("two", Check.reads("$c a b $.", 0).count(0), 2);
        Check.due("two without an end", Check.unended("$c a b").count(0), 2);
        Check.due("two before a word that can't stand", Check.faultAtLast("$c a b $c", WORD).count(0), 2);
        Check.due("none before the end", Check.unended("$c").count(0), 0);
    }

    private static void constantsInScopes() {
        Check.sentence("SCOPE (at the $c) when a scope is open.");
        Check.faultAt("${ $c", SCOPE, 1);
        Check.faultAt("${ $c $. q", SCOPE, 1);
        Check.due("nothing is declared", Check.faultAt("${ $c a $. $}", SCOPE, 1).count(0), 0);
        Check.faultAt(Check.times(6, "${") + "$c a $.", SCOPE, 6);
        Check.faultAt("${ ${ $} $c a $. $}", SCOPE, 3);
        Check.due("behind it", Check.reads("${ $} $c a $.", 0).count(0), 1);
        Check.due("names can't be met", Check.faultAt("$c a $. ${ $c a", SCOPE, 4).count(0), 1);
    }

    private static void namesOfConstants() {
        Check.sentence("$c: NAME when it is a constant, a label, or was ever a variable.");
        String[] wrong = {"a", "b", "x", "y", "w", "q q"};
        for (String names : wrong) {
            Check.faultAtLast(START + "$c " + names, NAME);
        }
        for (String label : LABELS) {
            Check.faultAtLast(START + "$c " + label, NAME);
        }
        Check.reads(START + "$c q r $.", 2);
    }

    private static void oneOrMoreVariables() {
        Check.sentence("$v names $. One or more variables, likewise.");
        Check.faultAtLast("$v $.", WORD);
        Check.due("one", Check.reads("$v x $.", 0).count(1), 1);
        Check.due("two", Check.reads("${ $v x y $. $}", 0).count(1), 2);
        Check.due("two without an end", Check.unended("$v x y").count(1), 2);
        Check.due("none before the end", Check.unended("$v").count(1), 0);
    }

    private static void namesOfVariables() {
        Check.sentence("$v: NAME when it is a constant, a label, or an active variable. (It may have been one before.)");
        String[] wrong = {"a", "b", "x", "y", "q q", "w w"};
        for (String names : wrong) {
            Check.faultAtLast(START + "$v " + names, NAME);
            Check.faultAtLast(START + "${ $v " + names, NAME);
        }
        for (String label : LABELS) {
            Check.faultAtLast(START + "$v " + label, NAME);
        }
        Check.due("the same variable", Check.reads(START + "$v w $.", 2).count(1), 3);
        Check.due("in a scope", Check.reads(START + "${ $v w $. $} ${ $v w $. $}", 2).count(1), 3);
        // It is a variable anew: it has no type, and is apart from none.
        Check.faultAtLast(START + "$v w $. q $a a w", NAME);
        Check.reads(START + "$v w $. q $f b w $. r $a b w $.", 3);
        ProofLedger x = Check.reads("$c a $. $v x $. f $f a x $. ${ $v y $. $d x y $. $} $v y $. g $f a y $. l $a a x y $.", 1);
        Check.due("no pair", x.pairs(0), 0);
    }

    private static void twoOrMoreApart() {
        Check.sentence("$d names $. Two or more variables of which each two are APART.");
        String start = "$c t $. $v x y z u $. fx $f t x $. fy $f t y $. fz $f t z $. fu $f t u $. ";
        Check.faultAtLast(start + "$d $.", WORD);
        Check.faultAtLast(start + "$d x $.", WORD);
        int[] pairs = {1, 3, 6};
        String[] names = {"x y", "x y z", "u z y x"};
        for (int i = 0; i < names.length; i++) {
            ProofLedger x = Check.reads(start + "$d " + names[i] + " $. l $a t x y z u $.", 1);
            Check.due("pairs of " + names[i], x.pairs(0), pairs[i]);
            Check.due("x and y", x.apart(0, 'x', 'y'), true);
            Check.due("x and z", x.apart(0, 'x', 'z'), i > 0);
            Check.due("z and u", x.apart(0, 'z', 'u'), i > 1);
        }
    }

    private static void namesOfApart() {
        Check.sentence("$d: NAME when it is no constant and no active variable; KIND when it is a constant; "
            + "NAME when it stood before in this statement.");
        String[] before = {"$d ", "$d x ", "$d x y "};
        for (String names : before) {
            Check.faultAtLast(START + names + "q", NAME);
            Check.faultAtLast(START + names + "w", NAME);
            Check.faultAtLast(START + names + "a", KIND);
            for (String label : LABELS) {
                Check.faultAtLast(START + names + label, NAME);
            }
        }
        Check.faultAtLast(START + "$d x x", NAME);
        Check.faultAtLast(START + "$d y x y", NAME);
        Check.faultAtLast(START + "$d y x x", NAME);
        // It may have stood in another statement, and needs no type.
        Check.reads(START + "$d x y $. $d x y $. $d y x $.", 2);
    }

    private static void fortyPairs() {
        Check.sentence("A pair more for each of them, told before or not; ROOM when more than 40 pairs are active.");
        String start = "$v a b c d e f g h i j $. ";
        String nine = "$d a b c d e f g h i $. ";
        Check.reads(start + nine + "$d a b c $. $d a j $.", 0);
        Check.faultAtLast(start + nine + "$d a b c $. $d a j $. $d b j", ROOM);
        Check.faultAtLast(start + nine + "$d a b c $. $d a b c", ROOM);
        Check.faultAt(start + "$d a b c d e f g h i j $.", ROOM, 22);
        // The first name of a statement makes no pair.
        Check.faultAtLast(start + nine + "$d a b $. $d a b $. $d a b $. $d a b $. $d a $.", WORD);
        Check.reads(start + Check.times(40, "$d a b $."), 0);
        Check.faultAtLast(start + Check.times(40, "$d a b $.") + "$d b a", ROOM);
        Check.faultAtLast(start + Check.times(39, "$d a b $.") + "$d a c b", ROOM);
        // They are active up to the end of their scope.
        Check.faultAtLast(start + nine + "${ $d a b c $. ${ $d a j $. ${ $d a b", ROOM);
        Check.reads(start + nine + Check.times(12, "${ $d a b c $. ${ $d a j $. $} $d b j $. $} "), 0);
        Check.faultAtLast(start + nine + "${ $d a b c $. $d a j $. $} $d a b c $. $d a j $. $d a j", ROOM);
        ProofLedger x = Check.reading(start + nine + "$d a b c $. $d a j $. $d a j");
        Check.due("and up to the next read", x.read(), ROOM);
    }

    private static void orderAtApart() {
        Check.sentence("For each name, in order: NAME; KIND; NAME when it stood before; then ROOM.");
        String full = "$c k $. $v a b $. l $a k $. ${ $v w $. $} " + Check.times(40, "$d a b $.") + "$d a ";
        Check.faultAtLast(full + "q", NAME);
        Check.faultAtLast(full + "l", NAME);
        Check.faultAtLast(full + "w", NAME);
        Check.faultAtLast(full + "k", KIND);
        Check.faultAtLast(full + "a", NAME);
        Check.faultAtLast(full + "b", ROOM);
    }

    private static void typesOfFloating() {
        Check.sentence("label $f c v $.: c: NAME when it is no constant and no active variable; KIND when it is an "
            + "active variable.");
        typesAre("$f");
        Check.faultAtLast(START + "q $f $.", WORD);
        Check.faultAtLast(START + "q $f a $.", WORD);
    }

    private static void typesAre(String kind) {
        String start = START + "q " + kind + " ";
        Check.faultAtLast(start + "r", NAME);
        Check.faultAtLast(start + "q", NAME);
        Check.faultAtLast(start + "w", NAME);
        Check.faultAtLast(start + "x", KIND);
        Check.faultAtLast(start + "y", KIND);
        for (String label : LABELS) {
            Check.faultAtLast(start + label, NAME);
        }
        Check.unended(start + "a");
        Check.unended(start + "b");
    }

    private static void variablesOfFloating() {
        Check.sentence("v: NAME likewise; KIND when it is a constant; NAME when it has a type that is active.");
        String start = START + "q $f a ";
        Check.faultAtLast(start + "r", NAME);
        Check.faultAtLast(start + "q", NAME);
        Check.faultAtLast(start + "w", NAME);
        Check.faultAtLast(start + "a", KIND);
        Check.faultAtLast(start + "b", KIND);
        Check.faultAtLast(start + "x", NAME);
        for (String label : LABELS) {
            Check.faultAtLast(start + label, NAME);
        }
        Check.reads(start + "y $.", 2);
        Check.faultAtLast(start + "y $. r $f b y", NAME);
        Check.faultAtLast(start + "y $. ${ r $f b y", NAME);
        Check.faultAtLast(start + "y y", WORD);
        Check.reads(START + "${ q $f a y $. $} r $f b y $.", 2);
    }

    private static void typesOfExpressions() {
        Check.sentence("label $e c names $.: c (as above) and any number of names (perhaps none).");
        for (String kind : EXPRESSIONS) {
            typesAre(kind);
            String start = START + "q " + kind + " ";
            String end = kind.equals("$p") ? "$= ? $." : "$.";
            int assertions = kind.equals("$e") ? 2 : 3;
            Check.faultAtLast(start + (kind.equals("$p") ? "$=" : "$."), WORD);
            for (int n = 0; n <= 3; n++) {
                Check.reads(start + "b " + Check.times(n, "b") + end, assertions);
            }
        }
    }

    private static void namesOfExpressions() {
        Check.sentence("Each is a constant or an active variable with an active type (else NAME).");
        for (String kind : EXPRESSIONS) {
            String start = START + "q " + kind + " a x b ";
            Check.unended(start + "x");
            Check.unended(start + "a");
            String[] wrong = {"r", "q", "w", "y"};
            for (String name : wrong) {
                Check.faultAtLast(start + name, NAME);
            }
            for (String label : LABELS) {
                Check.faultAtLast(start + label, NAME);
            }
            Check.faultAtLast(START + "${ g $f a y $. $} q " + kind + " a y", NAME);
            Check.unended(START + "${ g $f a y $. q " + kind + " a y");
        }
    }

    private static void twentyFourSymbols() {
        Check.sentence("It has at most 24 symbols: ROOM at the name that is too much.");
        for (String kind : EXPRESSIONS) {
            String start = START + "q " + kind + " ";
            String end = kind.equals("$p") ? "$= ? $." : "$.";
            int assertions = kind.equals("$e") ? 2 : 3;
            Check.reads(start + "a " + Check.times(22, "x") + "b " + end, assertions);
            Check.faultAt(start + "a " + Check.times(22, "x") + "b x " + end, ROOM, Check.words(start) + 24);
            Check.faultAtLast(start + Check.times(25, "a"), ROOM);
            Check.faultAtLast(start + "a " + Check.times(23, "x") + "x", ROOM);
            Check.faultAtLast(start + Check.times(24, "a") + "$x", WORD);
            Check.faultAtLast(start + Check.times(24, "a") + "abcdefghi", WORD);
        }
        // The next statement has room for all of its own.
        ProofLedger x = Check.reads("$c a $. " + Check.times(5, "l# $a " + Check.times(24, "a") + "$."), 5);
        Check.due("the last symbol of the last", x.symbol(4, 23), 'a');
    }

    private static void namesOfLabels() {
        Check.sentence("label: a name; NAME when it is a constant, was ever a variable, or is a label.");
        String[] wrong = {"a", "b", "x", "y", "w"};
        for (String name : wrong) {
            Check.faultAtLast(START + name, NAME);
            Check.faultAtLast(START + "${ " + name, NAME);
        }
        for (String label : LABELS) {
            Check.faultAtLast(START + label, NAME);
            Check.faultAtLast(START + "${ " + label, NAME);
        }
        // NAME is met at the label, before the keyword behind it is come to.
        Check.faultAt(START + "a $x", NAME, Check.words(START));
    }

    private static void kindsBehindLabels() {
        Check.sentence("What stands behind it must be one of these four keywords (WORD).");
        String[] right = {"$f", "$e", "$a", "$p"};
        for (String word : right) {
            Check.unended(START + "q " + word);
        }
        String[] wrong = {"$c", "$v", "$d", "$=", "$.", "${", "$}", "$)", "$", "$F", "$aa", "a", "x", "q", "r", "l", "("};
        for (String word : wrong) {
            Check.faultAtLast(START + "q " + word, WORD);
        }
    }

    private static void declaredAtItsEnd() {
        Check.sentence("A statement is declared, and its label, when its $. is come to and it has no fault.");
        String[] statements = {"q $f a y", "q $e a x", "q $a a x", "q $p a x $= h"};
        for (int i = 0; i < statements.length; i++) {
            ProofLedger x = Check.unended(START + statements[i]);
            ProofLedger y = Check.reads(START + statements[i] + " $.", i < 2 ? 2 : 3);
            for (int what = 2; what <= 5; what++) {
                Check.due("before its end " + what, x.count(what), what == 2 || what == 3 ? 2 : 1);
                Check.due("at its end " + what, y.count(what) - x.count(what), what - 2 == i ? 1 : 0);
            }
            Check.faultAtLast(START + statements[i] + " $. q", NAME);
        }
        Check.faultAtLast(START + "q $p a x $= q", ProofLedger.PROOF);
        Check.due("a faulty theorem", Check.faultAtLast(START + "q $p a x $= f h $.", ProofLedger.STACK).count(5), 1);
        // A floating one gives no type before its end, nor when it has a fault.
        Check.due("a faulty floating one", Check.faultAtLast(START + "q $f a y y", WORD).count(2), 2);
    }
}
