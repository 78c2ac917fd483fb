/** The boundary cases of promises 1 to 3: each method holds to one sentence of the document. */
public final class TextBoundaryTest {
    private static final int NONE = ProofLedger.NONE;
    private static final long EIGHT_SPACES = 0x2020202020202020L;
    private static final int MOST = 1600;

    private TextBoundaryTest() {
    }

    public static void main(String[] args) {
        nothingInANewObject();
        lowestBytesHighestFirst();
        howManyAtOnce();
        whichCodes();
        howManyInAll();
        refusedChangesNothing();
        answersHowMany();
        clearedIsEmpty();
        clearedKeepsWhatWasRead();
        lastOfItsCalls();
        Check.end();
    }

    private static void nothingInANewObject() {
        Check.sentence("A new object: No text, nothing was read.");
        Check.due("no text to clear", new ProofLedger().clear(), 0);
        Check.due("no text to read", new ProofLedger().read(), 0);
        Check.due("the first character is the first", new ProofLedger().feed('a', 1), 1);
        nothingIsThere(new ProofLedger());
        Check.sentence("place: NONE when it met none, or there was none.");
        Check.due("no read() yet", new ProofLedger().place(), NONE);
        ProofLedger fedAlone = new ProofLedger();
        Check.feed(fedAlone, "$c a $. l $a a $. l");
        nothingIsThere(fedAlone);
    }

    private static void nothingIsThere(ProofLedger x) {
        for (int what = 0; what <= 6; what++) {
            Check.due("count " + what, x.count(what), 0);
        }
        Check.due("place", x.place(), NONE);
        Check.due("label", x.label(0), NONE);
        Check.due("symbol", x.symbol(0, 0), NONE);
        Check.due("hypothesis", x.hypothesis(0, 0), NONE);
        Check.due("pairs", x.pairs(0), NONE);
        Check.due("apart", x.apart(0, 'x', 'y'), false);
        Check.due("apart of no names", x.apart(0, 0, 0), false);
        Check.due("steps", x.steps(0), NONE);
        Check.due("depth", x.depth(0), NONE);
        Check.due("uses", x.uses(0, 0), NONE);
        Check.due("proved", x.proved(0), false);
    }

    private static void lowestBytesHighestFirst() {
        Check.sentence("Appends the n lowest bytes of a long to the text, as characters, the highest first.");
        for (int n = 1; n <= 8; n++) {
            String name = "stuvwxyz".substring(8 - n);
            ProofLedger x = new ProofLedger();
            Check.feed(x, "$c ");
            // The bytes above the n lowest are no characters, and are not looked at.
            long above = n == 8 ? 0 : -1L << 8 * n;
            Check.due(n + " bytes", x.feed(0x737475767778797AL | above, n), 3 + n);
            Check.feed(x, " $. l $a " + name + " $.");
            Check.due("read of " + name, x.read(), 1);
            Check.due("symbol " + name, x.symbol(0, 0), Check.code(name));
        }
    }

    private static void howManyAtOnce() {
        Check.sentence("NONE, changing nothing, when n is not 1 .. 8.");
        int[] wrong = {0, -1, -8, 9, 10, 64, 65, 256, 257, 1600, Integer.MIN_VALUE, Integer.MIN_VALUE + 1,
            Integer.MAX_VALUE - 1, Integer.MAX_VALUE};
        for (int n : wrong) {
            Check.due("n is " + n, new ProofLedger().feed(EIGHT_SPACES, n), NONE);
        }
        for (int n = 1; n <= 8; n++) {
            Check.due("n is " + n, new ProofLedger().feed(EIGHT_SPACES, n), n);
        }
    }

    private static void whichCodes() {
        Check.sentence("NONE, changing nothing, when one is not 32 .. 126.");
        for (long code = 0; code <= 255; code++) {
            boolean fits = code >= 32 && code <= 126;
            for (int at = 0; at < 8; at++) {
                long characters = EIGHT_SPACES & ~(255L << 8 * at) | code << 8 * at;
                Check.due("code " + code + " at " + at, new ProofLedger().feed(characters, 8), fits ? 8 : NONE);
            }
            Check.due("code " + code + " alone", new ProofLedger().feed(code, 1), fits ? 1 : NONE);
        }
    }

    private static void howManyInAll() {
        Check.sentence("NONE, changing nothing, when there would be more than 1600.");
        for (int n = 1; n <= 8; n++) {
            ProofLedger x = full(MOST - n);
            if (n < 8) {
                Check.due(n + 1 + " are one too many", x.feed(EIGHT_SPACES, n + 1), NONE);
            }
            Check.due(n + " fill it", x.feed(EIGHT_SPACES, n), MOST);
            Check.due("one more", x.feed(' ', 1), NONE);
            Check.due("eight more", x.feed(EIGHT_SPACES, 8), NONE);
            Check.due("it is still full", x.clear(), MOST);
        }
        ProofLedger wrapped = full(MOST);
        Check.due("so many that the sum wraps around", wrapped.feed(EIGHT_SPACES, Integer.MAX_VALUE), NONE);
        ProofLedger x = full(MOST - 7);
        Check.due("the last characters", x.feed(0x24632061_20242EL, 7), MOST);
        Check.due("they are read", x.read(), 0);
        Check.due("the constant at the end", x.count(0), 1);
    }

    private static ProofLedger full(int length) {
        ProofLedger x = new ProofLedger();
        Check.feed(x, " ".repeat(length));
        return x;
    }

    private static void refusedChangesNothing() {
        Check.sentence("NONE, changing nothing.");
        ProofLedger x = new ProofLedger();
        Check.feed(x, "$c a $. l $a a");
        Check.due("no character", x.feed(0x2020, 0), NONE);
        Check.due("too many", x.feed(EIGHT_SPACES, 9), NONE);
        // Of each of these some characters would do.
        Check.due("the last is wrong", x.feed(0x20617F, 3), NONE);
        Check.due("the first is wrong", x.feed(0x1F6120, 3), NONE);
        Check.due("the next is where it would have been", x.feed(0x20242E, 3), 17);
        Check.due("read", x.read(), 1);
        Check.due("nothing was put into the expression", x.symbol(0, 1), NONE);
        Check.due("a refused one leaves what was read", x.feed(0, 1), NONE);
        Check.due("the label", x.label(0), 'l');
        ProofLedger nearlyFull = new ProofLedger();
        Check.feed(nearlyFull, "$c a $. l $a a" + " ".repeat(1584));
        Check.due("the text would be too long", nearlyFull.feed(0x20242E, 3), NONE);
        Check.due("what was there has room", nearlyFull.feed(0x242E, 2), MOST);
        Check.due("read of a full text", nearlyFull.read(), 1);
    }

    private static void answersHowMany() {
        Check.sentence("Answers how many it has then.");
        ProofLedger x = new ProofLedger();
        int length = 0;
        for (int n = 1; length + n <= MOST; n = n % 8 + 1) {
            length += n;
            Check.due("fed " + n, x.feed(EIGHT_SPACES, n), length);
        }
    }

    private static void clearedIsEmpty() {
        Check.sentence("clear: The text is empty. Answers how many characters it had.");
        ProofLedger x = new ProofLedger();
        Check.due("of nothing", x.clear(), 0);
        x.feed('$', 1);
        Check.due("of one", x.clear(), 1);
        Check.due("of one, again", x.clear(), 0);
        Check.feed(x, "$c a $. " + " ".repeat(1592));
        Check.due("of all", x.clear(), MOST);
        Check.due("read of the empty text", x.read(), 0);
        Check.due("no constant is left", x.count(0), 0);
        Check.due("it is filled from its beginning", x.feed(0x2463, 2), 2);
        Check.due("its end is where feeding ended", x.read(), ProofLedger.UNENDED);
        Check.due("and nothing stands behind it", x.place(), 1);
    }

    private static void clearedKeepsWhatWasRead() {
        Check.sentence("clear: what was read stays.");
        ProofLedger x = Check.reading("$c a $. $v x y $. f $f a x $. g $f a y $. $d x y $. l $a a x y $. "
            + "m $p a x y $= f g l $. n $p a $= ? $. n");
        x.clear();
        Check.feed(x, "$c q $.");
        int[] counts = {1, 2, 2, 0, 1, 2, 1};
        for (int what = 0; what < counts.length; what++) {
            Check.due("count " + what, x.count(what), counts[what]);
        }
        Check.due("place", x.place(), 43);
        Check.due("label", x.label(1), 'm');
        Check.due("symbol", x.symbol(1, 2), 'y');
        Check.due("hypothesis", x.hypothesis(1, 1), 'g');
        Check.due("pairs", x.pairs(1), 1);
        Check.due("apart", x.apart(1, 'y', 'x'), true);
        Check.due("steps", x.steps(1), 3);
        Check.due("depth", x.depth(1), 2);
        Check.due("uses", x.uses(1, 0), 1);
        Check.due("proved", x.proved(1), true);
        Check.due("not proved", x.proved(2), false);
    }

    private static void lastOfItsCalls() {
        Check.sentence("An object is used for at most 512 calls after it has been made.");
        String text = "$c a $. l $a a $. m $p a $= l $.";
        ProofLedger x = new ProofLedger();
        Check.feed(x, text + " ".repeat(MOST - text.length()));
        for (int call = 200; call < 511; call++) {
            Check.due("call " + call, x.read(), 2);
        }
        Check.due("the 512th call", x.uses(1, 0), 1);
        ProofLedger y = new ProofLedger();
        for (int call = 0; call < 511; call++) {
            Check.due("call " + call, call % 2 == 0 ? y.feed(EIGHT_SPACES, 8) : y.clear(), 8);
        }
        Check.due("the 512th call is a clear", y.clear(), 8);
    }
}
