/** Promises 3 and 4, clear and read: what was read before is forgotten, whatever it was and wherever it ended. */
public final class AgainTest {
    private static final String SETS = "$v x y z $. $c w t $. wx $f w x $. wy $f w y $. wz $f w z $. ";
    private static final String[] TEXTS = {
        "",
        "$(",
        "${ ${ ${ $v x y $. $d x y",
        "$c a",
        "$c a $. l",
        "$c a $. l $a a $. m $p a $= l",
        "$c a $. l $p a $= ? $. m $p a $= l $.",
        "$c a $. l $p a $= ( ",
        "$c a $. l $a a $. m $a a $. n $p a $= ( m l m l ) ABU",
        "$c a $. h $e a $. l $a a $. m $p a $= ( ) AZABZCU",
        "$c a $. h $e a $. m $p a $= ( ) B",
        "$c a $. m $p a $= ( ) Z",
        "$c a $. h $e a $. m $p a $= ( ) A $. n $p a $= ( m ) AZCB $. o $p a $= ( n ) A ? AZC $.",
        "$c a $. e $e a $. f $e a $. g $e a $. h $e a $. i $e a $. l $a a $. m $a a $. n $a a $.",
        "$c a $. f $a a $. $v x $. fx $f a x $. g $a a x $. h $p a x $= fx g $.",
        SETS,
        SETS + "$d x y z $. l $a t x y z $. m $p t x y z $= wx wy wz l $.",
        SETS + "l $a t x y z $. m $p t x y z $= wx wy wz l $. n $p t $= wx l",
        SETS + "${ $d x y $. l $a t x y $. $} m $p t x y $= wx wy l $.",
        SETS + "${ $d x y $. l $a t x y $. m $p t x y $= wx wy l $. $} ${ $d x z $. e $e t z $. n $p t z $= e",
        "${ $v x $. $} $v x $. $c a $. l $a a x $.",
        "${ $v x $. $} $d x y $.",
        "$v x y $. $d x y $. $d y x $. $c a $. f $f a x $. l $a a x y $.",
        "$c a b c $. $v x y $. l $a a $. m $f a y $. f $f a x $. o $e b x $. n $e a y $. q $p c $= ? $.",
        "$c a b c $. $v x y $. l $e a $. m $e a $. f $f b y $. n $p a $= l ? $. q $f c x $. o $a c x $."
    };

    private AgainTest() {
    }

    public static void main(String[] args) {
        for (String before : TEXTS) {
            for (String text : TEXTS) {
                readAfter(before, text);
            }
        }
        many();
        Check.end();
    }

    private static void readAfter(String before, String text) {
        ProofLedger x = Check.reading(before);
        Check.due("clear of '" + before + "'", x.clear(), before.length());
        Check.feed(x, text);
        int answer = x.read();
        ProofLedger fresh = new ProofLedger();
        Check.feed(fresh, text);
        Check.due("'" + text + "' after '" + before + "'", answer, fresh.read());
        Check.due("answers for '" + text + "' after '" + before + "'", answers(x).equals(answers(fresh)), true);
    }

    private static void many() {
        ProofLedger x = new ProofLedger();
        for (int round = 0; round < 2; round++) {
            for (String text : TEXTS) {
                x.clear();
                Check.feed(x, text);
                x.read();
                Check.due("answers for '" + text + "'", answers(x).equals(answers(Check.reading(text))), true);
            }
        }
    }

    private static String answers(ProofLedger x) {
        StringBuilder all = new StringBuilder();
        all.append(x.place());
        for (int what = 0; what <= 6; what++) {
            all.append(' ').append(x.count(what));
        }
        for (int k = 0; k < 6; k++) {
            all.append(" | ").append(x.label(k)).append(' ').append(x.pairs(k)).append(' ').append(x.steps(k));
            all.append(' ').append(x.depth(k)).append(' ').append(x.proved(k));
            all.append(' ').append(x.apart(k, 'x', 'y')).append(x.apart(k, 'y', 'z')).append(x.apart(k, 'x', 'z'));
            for (int i = 0; i < 6; i++) {
                all.append(' ').append(x.symbol(k, i)).append(' ').append(x.hypothesis(k, i));
                all.append(' ').append(x.uses(k, i));
            }
        }
        return all.toString();
    }
}
