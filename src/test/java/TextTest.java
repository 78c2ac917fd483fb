/** Promises 1 to 3: a new object, feed and clear. */
public final class TextTest {
    private TextTest() {
    }

    public static void main(String[] args) {
        newObject();
        feedOrdinary();
        feedRefused();
        feedToTheLimit();
        clearLeavesWhatWasRead();
        Check.end();
    }

    private static void newObject() {
        ProofLedger x = new ProofLedger();
        Check.due("new clear", x.clear(), 0);
        Check.due("new place", x.place(), ProofLedger.NONE);
        for (int what = 0; what <= 6; what++) {
            Check.due("new count " + what, x.count(what), 0);
        }
        Check.due("new label", x.label(0), ProofLedger.NONE);
        Check.due("new symbol", x.symbol(0, 0), ProofLedger.NONE);
        Check.due("new hypothesis", x.hypothesis(0, 0), ProofLedger.NONE);
        Check.due("new pairs", x.pairs(0), ProofLedger.NONE);
        Check.due("new apart", x.apart(0, 0, 0), false);
        Check.due("new steps", x.steps(0), ProofLedger.NONE);
        Check.due("new depth", x.depth(0), ProofLedger.NONE);
        Check.due("new uses", x.uses(0, 0), ProofLedger.NONE);
        Check.due("new proved", x.proved(0), false);
        Check.due("new read", x.read(), 0);
        Check.due("place after nothing was read", x.place(), ProofLedger.NONE);
    }

    private static void feedOrdinary() {
        ProofLedger x = new ProofLedger();
        Check.due("one", x.feed('$', 1), 1);
        Check.due("the highest first", x.feed('c' << 24 | ' ' << 16 | 'a' << 8 | 'b', 4), 5);
        Check.due("higher bytes are not looked at", x.feed(0xFF00FF00FF002024L, 2), 7);
        Check.due("end", x.feed('.', 1), 8);
        Check.due("read", x.read(), 0);
        Check.due("constant", x.count(0), 1);
        Check.feed(x, " l $a ab $.");
        Check.due("read again", x.read(), 1);
        Check.due("symbol", x.symbol(0, 0), Check.code("ab"));
        Check.due("edge codes", x.feed(32L << 8 | 126, 2), 21);
        Check.due("eight", x.feed(0x7E7E7E7E7E7E7E7EL, 8), 29);
    }

    private static void feedRefused() {
        ProofLedger x = new ProofLedger();
        int[] sizes = {0, -1, 9, 16, Integer.MIN_VALUE, Integer.MAX_VALUE};
        for (int n : sizes) {
            Check.due("n " + n, x.feed(0x4141414141414141L, n), ProofLedger.NONE);
        }
        int[] codes = {0, 9, 31, 127, 128, 160, 255};
        for (int code : codes) {
            Check.due("code " + code, x.feed(code, 1), ProofLedger.NONE);
            Check.due("code " + code + " at the end", x.feed(0x4100 | code, 2), ProofLedger.NONE);
            Check.due("code " + code + " highest", x.feed((long) code << 56 | 0x41414141414141L, 8), ProofLedger.NONE);
        }
        Check.due("a long of nothing", x.feed(0, 8), ProofLedger.NONE);
        Check.due("a negative long", x.feed(-1, 8), ProofLedger.NONE);
        Check.due("nothing was changed", x.clear(), 0);
    }

    private static void feedToTheLimit() {
        ProofLedger x = new ProofLedger();
        Check.feed(x, " ".repeat(1595));
        Check.due("six are too many", x.feed(0x202020202020L, 6), ProofLedger.NONE);
        Check.due("five are not", x.feed(0x2020202020L, 5), 1600);
        Check.due("one is too many", x.feed(0x20, 1), ProofLedger.NONE);
        Check.due("read of spaces", x.read(), 0);
        Check.due("clear", x.clear(), 1600);
        Check.due("feed after clear", x.feed(0x20, 1), 1);
        String full = Check.times(800, "x").trim() + "y";
        Check.faultAt(full, ProofLedger.WORD, 1);
        Check.unended("$( " + "x ".repeat(797) + "xyz");
    }

    private static void clearLeavesWhatWasRead() {
        ProofLedger x = Check.reading("$c a $. l $a a $. m $a b $.");
        Check.due("clear", x.clear(), 27);
        Check.due("clear again", x.clear(), 0);
        Check.due("place stays", x.place(), 9);
        Check.due("count stays", x.count(4), 1);
        Check.due("label stays", x.label(0), Check.code("l"));
        Check.due("symbol stays", x.symbol(0, 0), Check.code("a"));
        Check.feed(x, "$c q $.");
        Check.due("what was read stays while it is fed", x.symbol(0, 0), Check.code("a"));
        Check.due("read of the new text", x.read(), 0);
        Check.due("what was read is forgotten", x.label(0), ProofLedger.NONE);
        Check.due("the fault is forgotten", x.place(), ProofLedger.NONE);
    }
}
