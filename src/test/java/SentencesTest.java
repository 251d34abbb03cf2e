import java.nio.file.Files;
import java.nio.file.Path;
import java.util.ArrayList;
import java.util.List;

/** A test of its own for each sentence of the document; the sentence stands with it. */
public final class SentencesTest {
    public static void main(String[] args) throws Exception {
        OrdinaryCalls.run();
        CircuitEdges.run();
        WantedEdges.run();
        DiagramEdges.run();
        FaultEdges.run();
        SquareEdges.run();
        Path document = Path.of(args.length > 0 ? args[0] : ".", "../shared/DOC.md");
        if (Files.exists(document)) {
            compareWith(Files.readString(document));
        } else {
            System.out.println("SentencesTest: no " + document + ", so its sentences are not compared");
        }
        System.out.println("SentencesTest: " + Check.quotes.stream().distinct().count() + " sentences, " + Check.asked
                + " answers, " + Check.wrong + " wrong");
        if (Check.wrong != 0) {
            System.exit(1);
        }
    }

    /** Each sentence of a test stands in the document, and each sentence of the document has a test. */
    private static void compareWith(String document) {
        String[] parts = document.split("## Promise [0-9]+:");
        parts[0] = parts[0].substring(parts[0].indexOf("An object is used"));
        parts[parts.length - 1] = parts[parts.length - 1].split("## Not promised")[0];
        List<StringBuilder> left = new ArrayList<>();
        for (String part : parts) {
            left.add(new StringBuilder(part));
        }
        for (Check.Quote quote : Check.quotes) {
            if (quote.promise() >= parts.length || !parts[quote.promise()].contains(quote.words())) {
                complain("promise " + quote.promise() + " of the document does not say: " + quote.words());
            } else {
                takeOut(left.get(quote.promise()), parts[quote.promise()], quote.words());
            }
        }
        for (int promise = 0; promise < parts.length; promise++) {
            boolean isFace = false;
            for (String line : left.get(promise).toString().split("\n")) {
                isFace = line.startsWith("## The public face") || isFace && !line.startsWith("## ");
                if (!isFace && !isWithoutSentence(line)) {
                    complain("no test for promise " + promise + ": " + line.replaceAll("~+", "~"));
                }
            }
        }
    }

    /** What is tested becomes "~", wherever the document says it. */
    private static void takeOut(StringBuilder left, String part, String words) {
        for (int start = part.indexOf(words); start >= 0; start = part.indexOf(words, start + 1)) {
            for (int k = start; k < start + words.length(); k++) {
                left.setCharAt(k, '~');
            }
        }
    }

    /** Names, titles and the like, and what is left of a line when its sentences are taken out. */
    private static boolean isWithoutSentence(String line) {
        return line.matches("[~.,:; ]*( and | but |Throws `\\w+` (\\.util\\.NoSuchElementException )?)?[~.,:; ]*")
                || line.matches("(## |== |---- |`).*| \\w+| A new object")
                // a parameter that is named, and has no rule of its own
                || line.matches("- `\\w+`: (~+|(a|an|the|its|how) (\\w+ )?\\w+)( ?~+)?")
                || line.startsWith("The constructor and the methods follow")
                || line.matches("~+; what later calls answer is free\\.");
    }

    private static void complain(String what) {
        Check.wrong++;
        System.out.println("SentencesTest: " + what);
    }
}
