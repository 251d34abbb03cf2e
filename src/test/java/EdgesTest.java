import java.nio.file.Files;
import java.nio.file.Path;

/** A test of its own for each sentence of the document that names a boundary case; the sentence stands with it. */
public final class EdgesTest {
    public static void main(String[] args) throws Exception {
        CircuitEdges.run();
        WantedEdges.run();
        DiagramEdges.run();
        FaultEdges.run();
        SquareEdges.run();
        Path document = Path.of(args.length > 0 ? args[0] : ".", "../shared/DOC.md");
        if (Files.exists(document)) {
            compareWith(Files.readString(document));
        } else {
            System.out.println("EdgesTest: no " + document + ", so its sentences are not compared");
        }
        System.out.println("EdgesTest: " + Check.quotes.stream().distinct().count() + " sentences, " + Check.asked
                + " answers, " + Check.wrong + " wrong");
        if (Check.wrong != 0) {
            System.exit(1);
        }
    }

    /** Each sentence of a test stands in the document, and each refusal that the document names has a test. */
    private static void compareWith(String document) {
        String[] parts = document.split("## Promise [0-9]+:");
        for (Check.Quote quote : Check.quotes) {
            if (quote.promise() >= parts.length || !parts[quote.promise()].contains(quote.words())) {
                complain("promise " + quote.promise() + " of the document does not say: " + quote.words());
            }
        }
        for (int promise = 1; promise < parts.length; promise++) {
            for (String line : parts[promise].split("\n")) {
                if (line.startsWith("Throws ") && !isTaken(promise, line)) {
                    complain("no test for promise " + promise + ": " + line);
                }
            }
        }
    }

    private static boolean isTaken(int promise, String refusal) {
        for (Check.Quote quote : Check.quotes) {
            if (quote.promise() == promise && refusal.endsWith(" " + quote.words())) {
                return true;
            }
        }
        return false;
    }

    private static void complain(String what) {
        Check.wrong++;
        System.out.println("EdgesTest: " + what);
    }
}
