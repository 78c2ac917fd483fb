/** What the tests share: it feeds texts, holds answers against those that are due, and counts the wrong ones. */
final class Check {
    private static int asked = 0;
    private static int wrong = 0;
    private static String sentence = "";

    private Check() {
    }

    /** The words of the document that the answers asked for from here on hold to: a wrong one is told with them. */
    static void sentence(String words) {
        sentence = words;
    }

    static void due(String what, long got, long want) {
        asked++;
        if (got != want) {
            wrong++;
            System.out.println(what + ": answered " + got + ", due is " + want);
            if (!sentence.isEmpty()) {
                System.out.println("    the document: " + sentence);
            }
        }
    }

    static void due(String what, boolean got, boolean want) {
        due(what, got ? 1 : 0, want ? 1 : 0);
    }

    /** Ends the test: with exit code 1 when an answer was wrong, or none was asked for. */
    static void end() {
        System.out.println(asked + " answers, " + wrong + " of them wrong");
        if (wrong != 0 || asked == 0) {
            System.exit(1);
        }
    }

    /** A name as the number that its characters make as digits to the base 128. */
    static long code(String name) {
        long code = 0;
        for (int i = 0; i < name.length(); i++) {
            code = code * 128 + name.charAt(i);
        }
        return code;
    }

    static void feed(ProofLedger ledger, String text) {
        for (int from = 0; from < text.length(); from += 8) {
            int to = Math.min(from + 8, text.length());
            long characters = 0;
            for (int i = from; i < to; i++) {
                characters = characters << 8 | text.charAt(i);
            }
            if (ledger.feed(characters, to - from) == ProofLedger.NONE) {
                due("feeding of '" + text + "' from " + from, ProofLedger.NONE, to);
            }
        }
    }

    /** A new object that has read the text without a look at what that answered. */
    static ProofLedger reading(String text) {
        ProofLedger ledger = new ProofLedger();
        feed(ledger, text);
        ledger.read();
        return ledger;
    }

    /** The text has no fault and this many assertions. */
    static ProofLedger reads(String text, int assertions) {
        ProofLedger ledger = new ProofLedger();
        feed(ledger, text);
        due("read of '" + text + "'", ledger.read(), assertions);
        due("place after '" + text + "'", ledger.place(), ProofLedger.NONE);
        return ledger;
    }

    /** The text ends in a fault at its last word, to which further words are no matter. */
    static ProofLedger faultAtLast(String text, int fault) {
        return faultAt(text, fault, words(text) - 1);
    }

    static ProofLedger faultAt(String text, int fault, int place) {
        ProofLedger ledger = new ProofLedger();
        feed(ledger, text);
        due("read of '" + text + "'", ledger.read(), fault);
        due("place after '" + text + "'", ledger.place(), place);
        return ledger;
    }

    static ProofLedger unended(String text) {
        return faultAt(text, ProofLedger.UNENDED, words(text));
    }

    static int words(String text) {
        String trimmed = text.trim();
        return trimmed.isEmpty() ? 0 : trimmed.split(" +").length;
    }

    /** So many of the same words, a space behind each; a # in them becomes 0, 1, .. */
    static String times(int n, String words) {
        StringBuilder all = new StringBuilder();
        for (int i = 0; i < n; i++) {
            all.append(words.replace("#", Integer.toString(i))).append(' ');
        }
        return all.toString();
    }
}
