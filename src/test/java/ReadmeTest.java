import java.io.IOException;
import java.nio.file.Files;
import java.nio.file.Path;
import java.util.HashSet;
import java.util.List;
import java.util.Set;

/** The example of README.md: what it shows is what stands here, and it answers what it tells. */
public final class ReadmeTest {
    private ReadmeTest() {
    }

    public static void main(String[] args) throws IOException {
        example();
        standsHere();
        Check.end();
    }

    private static void example() {
        ProofLedger ledger = new ProofLedger();
        feed(ledger, "$c w t > $. $v p q $. f $f w p $. g $f w q $. i $a w > p q $. ");
        feed(ledger, "${ $d p q $. m $e t p $. n $e t > p q $. d $a t q $. $} ");
        feed(ledger, "h $p w > p > p q $= ( i ) AABCC $. k $p t p $= ? $. ");
        int assertions = ledger.read();             // 4: the axioms i and d, the theorems h and k
        int variables = ledger.count(1);            // 2: p and q
        long label = ledger.label(2);               // 'h'
        long symbol = ledger.symbol(2, 1);          // '>'
        long hypothesis = ledger.hypothesis(1, 2);  // 'm', as f, g, m and n are mandatory for d
        boolean apart = ledger.apart(1, 'q', 'p');  // true, and pairs(1) is 1
        int steps = ledger.steps(2);                // 5
        int depth = ledger.depth(2);                // 3
        int uses = ledger.uses(2, 0);               // 2: h uses i twice
        boolean proved = ledger.proved(2);          // true; proved(3) is false, as the proof of k has a ?
        Check.due("place without a fault", ledger.place(), ProofLedger.NONE);
        Check.due("pairs of d", ledger.pairs(1), 1);
        Check.due("proved k", ledger.proved(3), false);
        int characters = ledger.clear();            // 170; what was read stays up to the next read()
        Check.due("label after clear", ledger.label(2), 'h');
        feed(ledger, "$c t $. a $a t $. h $p t $= b $.");
        int fault = ledger.read();                  // PROOF
        int place = ledger.place();                 // 11: no label b for the step that is word 11
        int declared = ledger.count(4);             // 1: what was declared before the fault stays
        Check.due("assertions", assertions, 4);
        Check.due("variables", variables, 2);
        Check.due("label", label, 'h');
        Check.due("symbol", symbol, '>');
        Check.due("hypothesis", hypothesis, 'm');
        Check.due("apart", apart, true);
        Check.due("steps", steps, 5);
        Check.due("depth", depth, 3);
        Check.due("uses", uses, 2);
        Check.due("proved", proved, true);
        Check.due("characters", characters, 170);
        Check.due("fault", fault, ProofLedger.PROOF);
        Check.due("place", place, 11);
        Check.due("declared", declared, 1);
    }

    static void feed(ProofLedger ledger, String text) {
        for (int from = 0; from < text.length(); from += 8) {
            int to = Math.min(from + 8, text.length());
            long characters = 0;
            for (int i = from; i < to; i++) {
                characters = characters << 8 | text.charAt(i);
            }
            ledger.feed(characters, to - from);
        }
    }

    /** Every line of Java that README.md shows is a line of this file, so that what is tested is what is shown. */
    private static void standsHere() throws IOException {
        Set<String> here = new HashSet<>();
        for (String line : Files.readAllLines(Path.of("src/test/java/ReadmeTest.java"))) {
            here.add(line.trim());
        }
        List<String> readme = Files.readAllLines(Path.of("README.md"));
        boolean java = false;
        int shown = 0;
        for (String line : readme) {
            if (line.startsWith("```")) {
                java = line.equals("```java");
            } else if (java) {
                Check.due("README.md's line '" + line + "' is tested", here.contains(line.trim()), true);
                shown++;
            }
        }
        Check.due("README.md shows an example", shown > 0, true);
    }
}
