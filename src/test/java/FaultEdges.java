import java.util.function.Supplier;

/** The sentences on faults and kinds: the fourth chapter, and the promises 29 to 34. */
final class FaultEdges {
    private static final Supplier<Gatesquare> USUAL = Squares::usual;
    private static final Supplier<Gatesquare> FULL = Squares::full;
    /** Four lines, 12 gates, and the OUTPUT never 1: of the 32 faults only that of the OUTPUT can be told. */
    private static final String MOST_SILENT = "2,3,1 0,3,3 5,3,1 1,6,3 5,1,6 4,6,7 1,4,2 3,7,10 1,0,5 4,12,11 2,7,11 3,8,8";

    private FaultEdges() {
    }

    static void run() {
        Check.each(
                FaultEdges::tellsNeedsItsFault, FaultEdges::setsOfNumbers, FaultEdges::faultsOfLines,
                FaultEdges::faultsOfTheOutput, FaultEdges::faultsOfGates, FaultEdges::testNeedsItsFault,
                FaultEdges::testOfASilentFault, FaultEdges::testIsTheFirst, FaultEdges::fewestAndMostSilent,
                FaultEdges::testsAreTheFewest, FaultEdges::testsAreTheFirst, FaultEdges::testsAreNeverNone,
                FaultEdges::circuitsOfFaults, FaultEdges::kindsOfFunctions, FaultEdges::kindsOfTheSame,
                FaultEdges::setsOfGates);
    }

    private static void tellsNeedsItsFault() {
        Check.sentence(29, "if there is no such CIRCUIT or WIRE");
        for (int circuit : Check.outside(0, 1)) {
            Check.refused(Check.INDEX, USUAL, x -> x.tells(circuit, 0, 0));
            Check.refused(Check.INDEX, USUAL, x -> x.tells(circuit, 0, 2));
        }
        for (int wire : Check.outside(0, 6)) {
            Check.refused(Check.INDEX, USUAL, x -> x.tells(0, wire, 1));
            Check.refused(Check.INDEX, USUAL, x -> x.tells(0, wire, -1));
        }
        for (int wire : Check.outside(0, 4)) {
            Check.refused(Check.INDEX, USUAL, x -> x.tells(1, wire, 0));
        }
        for (int wire : Check.outside(0, 15)) {
            Check.refused(Check.INDEX, FULL, x -> x.tells(0, wire, 0));
        }
        Check.sentence(29, "if value is not 0 or 1");
        for (int value : Check.outside(0, 1)) {
            Check.refused(Check.ARGUMENT, USUAL, x -> x.tells(0, 5, value));
            Check.refused(Check.ARGUMENT, FULL, x -> x.tells(1, 15, value));
        }
    }

    private static void setsOfNumbers() {
        Check.sentence(Check.DESCRIPTION, "A set is the sum of 2^k for the numbers k in it.");
        Gatesquare x = Squares.ofGates(4, "1,0,1 1,2,3 1,4,5");
        Check.due(x.tells(0, 6, 0), 32768);
        Check.due(x.tells(0, 6, 1), 32767);
        Check.due(x.tells(0, 0, 1), 16384);
        Check.due(x.kinds(0), 1 + 2 + 4 + 32);
        Check.due(Squares.ofLines(1).kinds(0), 63);
        Check.due(Squares.ofGates(4, "0,3,0 1,4,0").kinds(0), 1);
        Gatesquare never = Squares.ofGates(4, "3,0,0");
        Check.due(never.tells(0, 4, 1), 65535);
        Check.due(never.tells(0, 4, 0), 0);
        Check.due(x.makesAll(1 + 2), true);
        Check.due(x.makesAll(1 + 8), false);
    }

    private static void faultsOfLines() {
        Check.sentence(Check.DESCRIPTION, "A FAULT of a CIRCUIT: a WIRE and a value (0 or 1) that it always has.");
        int[] ones = {0xAAAA, 0xCCCC, 0xF0F0, 0xFF00};
        for (int n = 1; n <= 4; n++) {
            int all = (1 << (1 << n)) - 1;
            for (int line = 0; line < n; line++) {
                Gatesquare x = Squares.ofLines(n);
                x.output(0, line);
                for (int other = 0; other < n; other++) {
                    Check.due(x.tells(0, other, 0), other == line ? ones[line] & all : 0);
                    Check.due(x.tells(0, other, 1), other == line ? ~ones[line] & all : 0);
                }
            }
        }
        // a line that is stuck is so for all gates that look at it
        Gatesquare x = Squares.ofGates(2, "0,0,0 1,2,1 3,0,3");
        Check.due(x.table(0, 4), "0111");
        Check.due(x.tells(0, 0, 0), 0b0010);
        Check.due(x.tells(0, 0, 1), 0b0001);
        Check.due(x.tells(0, 1, 0), 0b0100);
        Check.due(x.tells(0, 1, 1), 0b0001);
        Check.due(x.tells(0, 2, 0), 0b0100);
        Check.due(x.tells(0, 2, 1), 0b1000);
    }

    private static void faultsOfTheOutput() {
        Check.sentence(Check.DESCRIPTION, "An INPUT TELLS it, if the OUTPUT tells something else then.");
        for (int n = 1; n <= 4; n++) {
            int all = (1 << (1 << n)) - 1;
            Gatesquare x = Squares.ofGates(n, "3,0,0 0," + n + ",0");
            Check.due(x.tells(0, n + 1, 0), all);
            Check.due(x.tells(0, n + 1, 1), 0);
            Check.due(x.tells(0, n, 1), all);
            Check.due(x.tells(0, n, 0), 0);
            Check.due(x.tells(0, 0, 0), 0);
            Check.due(x.tells(1, 0, 0), 0xAAAA & all);
            Check.due(x.tells(1, 0, 1), 0x5555 & all);
        }
    }

    private static void faultsOfGates() {
        Check.sentence(29, "Returns the set of the INPUTS that TELL the FAULT.");
        Gatesquare x = Squares.usual();
        int[] stuckAtZero = {0x80, 0x80, 0x70, 0x80, 0x07, 0x8F, 0};
        int[] stuckAtOne = {0x40, 0x20, 0x07, 0x70, 0x70, 0x70, 0};
        for (int wire = 0; wire < 7; wire++) {
            Check.due(x.tells(0, wire, 0), stuckAtZero[wire]);
            Check.due(x.tells(0, wire, 1), stuckAtOne[wire]);
        }
        // a gate that looks at a later one has its fault too
        Gatesquare y = Squares.ofGates(2, "0,0,0 1,0,1");
        y.rewire(0, 0, 0, 3);
        y.output(0, 2);
        Check.due(y.table(0, 2), "1110");
        Check.due(y.tells(0, 3, 1), 0b0111);
        Check.due(y.tells(0, 3, 0), 0b1000);
        Check.due(y.tells(0, 0, 1), 0b0100);
    }

    private static void testNeedsItsFault() {
        Check.sentence(30, "if there is no such CIRCUIT or WIRE");
        for (int circuit : Check.outside(0, 1)) {
            Check.refused(Check.INDEX, USUAL, x -> x.test(circuit, 5, 0));
        }
        for (int wire : Check.outside(0, 6)) {
            Check.refused(Check.INDEX, USUAL, x -> x.test(0, wire, 1));
        }
        for (int wire : Check.outside(0, 4)) {
            Check.refused(Check.INDEX, USUAL, x -> x.test(1, wire, 0));
        }
        Check.sentence(30, "if value is not 0 or 1");
        for (int value : Check.outside(0, 1)) {
            Check.refused(Check.ARGUMENT, USUAL, x -> x.test(0, 5, value));
            Check.refused(Check.ARGUMENT, FULL, x -> x.test(1, 0, value));
        }
        Check.sentence(Check.DESCRIPTION, "If several exceptions apply, the one that is named first is thrown.");
        for (int value : new int[] {2, -1, Check.LEAST, Check.MOST}) {
            Check.refused(Check.INDEX, USUAL, x -> x.test(2, 6, value));
            Check.refused(Check.INDEX, USUAL, x -> x.test(0, 7, value));
            // the wire 6 is silent
            Check.refused(Check.ARGUMENT, USUAL, x -> x.test(0, 6, value));
        }
    }

    private static void testOfASilentFault() {
        Check.sentence(30, "if it is SILENT");
        for (int value = 0; value < 2; value++) {
            int v = value;
            Check.refused(Check.ELEMENT, USUAL, x -> x.test(0, 6, v));
            Check.refused(Check.ELEMENT, FULL, x -> x.test(1, 15, v));
            Check.refused(Check.ELEMENT, Squares.wide(2), x -> x.test(1, 1, v));
        }
        Check.refused(Check.ELEMENT, () -> Squares.ofGates(4, MOST_SILENT), x -> x.test(0, 15, 0));
        Check.due(Squares.ofGates(4, MOST_SILENT).test(0, 15, 1), 0);
    }

    private static void testIsTheFirst() {
        Check.sentence(30, "Returns the first INPUT that TELLS the FAULT.");
        Gatesquare x = Squares.usual();
        Check.due(x.test(0, 0, 0), 7);
        Check.due(x.test(0, 0, 1), 6);
        Check.due(x.test(0, 1, 1), 5);
        Check.due(x.test(0, 2, 0), 4);
        Check.due(x.test(0, 2, 1), 0);
        Check.due(x.test(0, 5, 1), 4);
        Gatesquare all = Squares.ofGates(4, "1,0,1 1,2,3 1,4,5");
        Check.due(all.test(0, 6, 0), 15);
        Check.due(all.test(0, 6, 1), 0);
        Check.due(all.test(0, 3, 1), 7);
        Check.due(Squares.narrow().test(0, 1, 0), 0);
        Check.due(Squares.narrow().test(0, 1, 1), 1);
    }

    private static void fewestAndMostSilent() {
        Check.sentence(Check.DESCRIPTION, "A FAULT is SILENT, if none does.");
        for (int n = 1; n <= 4; n++) {
            Check.due(Squares.ofLines(n).silent(0), 2 * n - 2);
            Check.due(Squares.ofLines(n).silent(1), 2 * n - 2);
        }
        Check.due(Squares.narrow().silent(0), 0);
        Check.due(Squares.ofGates(4, "1,0,1 1,2,3 1,4,5").silent(0), 0);
        Check.due(Squares.ofGates(4, MOST_SILENT).silent(0), 31);
        Check.due(Squares.usual().silent(0), 2);
        Check.due(Squares.usual().silent(1), 0);
        Check.due(Squares.full().silent(0), 6);
        Check.due(Squares.full().silent(1), 18);
    }

    private static void dueTests(int lines, String gates, String tests) {
        Check.due(Squares.ofGates(lines, gates).tests(0), tests);
    }

    private static void testsAreTheFewest() {
        Check.sentence(Check.DESCRIPTION, "TESTS: the fewest INPUTS of which one TELLS each FAULT (of all WIRES and both values) that is not SILENT");
        for (int n = 1; n <= 4; n++) {
            Check.due(Squares.ofLines(n).tests(0), "0 1");
            Check.due(Squares.ofLines(n).tests(1), "0 1");
        }
        dueTests(4, "1,0,1 1,2,3 1,4,5", "7 11 13 14 15");
        dueTests(4, "2,0,1 2,2,3 2,4,5", "0 1 2 4 8");
        // all inputs are needed
        dueTests(1, "0,0,0", "0 1");
        dueTests(2, "0,0,1 0,1,0 4,2,3 0,4,3 4,3,5 4,6,1 3,4,0", "0 1 2 3");
        dueTests(4, "2,0,1 3,1,0 3,0,3 1,5,2 3,6,1 5,0,6 4,2,7 1,6,2 3,5,3 2,10,11 1,3,6 2,13,8", "4 5 6 9 12 13 14 15");
        // who takes the input that tells the most first comes to four
        dueTests(4, "2,1,2 3,1,0 3,4,5 0,1,0 0,2,3 0,6,6", "0 5 7");
        dueTests(4, "4,0,3 3,2,4 5,4,3 2,4,1 0,4,3 4,5,0 3,2,1 3,9,8", "0 9 13");
        dueTests(4, "5,1,2 0,0,0 0,3,5 3,5,4 5,3,5 3,8,8 5,9,7", "0 2 5");
    }

    private static void testsAreTheFirst() {
        Check.sentence(Check.DESCRIPTION, "of these sets the first: by its smallest INPUT, then its second one, and so on");
        dueTests(2, "3,0,0 1,2,0 3,1,3", "0 3");
        dueTests(2, "3,1,1 4,0,2 3,1,3 0,4,4", "0 3");
        dueTests(3, "5,2,0 3,1,3", "0 1 6");
        dueTests(3, "1,0,1 5,0,1 1,2,1 1,4,2 3,5,0", "2 5 6");
        dueTests(4, "0,0,1 2,3,2 4,4,2 5,6,0 3,1,5", "0 4 10");
        Check.due(Squares.usual().tests(0), "0 5 6 7");
        Check.due(Squares.usual().tests(1), "0 1 6");
    }

    private static void testsAreNeverNone() {
        Check.sentence(32, "Returns its TESTS, with a blank between two; \"\" if there are none.");
        // the OUTPUT has 0 or 1 by some input: so one of its own faults is never silent, and some test is needed
        for (int n = 1; n <= 4; n++) {
            Check.due(Squares.ofGates(n, "3,0,0").tests(0), "0");
            Check.due(Squares.ofGates(n, "3,0,0 0," + n + ",0").tests(0), "0");
            Check.due(Squares.ofGates(n, "3,0,0").tests(1), "0 1");
        }
        dueTests(4, MOST_SILENT, "0");
    }

    private static void circuitsOfFaults() {
        for (int circuit : Check.outside(0, 1)) {
            Check.sentence(31, "if there is no such CIRCUIT");
            Check.refused(Check.INDEX, USUAL, x -> x.silent(circuit));
            Check.sentence(32, "if there is no such CIRCUIT");
            Check.refused(Check.INDEX, USUAL, x -> x.tests(circuit));
            Check.sentence(33, "if there is no such CIRCUIT");
            Check.refused(Check.INDEX, USUAL, x -> x.kinds(circuit));
        }
    }

    private static void dueKinds(int lines, String gates, String kinds) {
        int set = 0;
        for (String kind : kinds.split(" ")) {
            set += kind.isEmpty() ? 0 : 1 << Integer.parseInt(kind);
        }
        Check.due(Squares.ofGates(lines, gates).kinds(0), set);
    }

    private static void kindsOfFunctions() {
        Check.sentence(Check.DESCRIPTION, "KINDS of a function: 0 it keeps 0 (0 by the INPUT 0), 1 it keeps 1 (1 by the last INPUT), 2 RISING: with a LINE 1 in place of 0 it is never 0 in place of 1, 3 TURNED: by the INPUT with all digits turned it is turned, 4 STRAIGHT: its products (as with SUM) have one LINE at most each, 5 EVEN-HANDED: it is the same with any two LINES exchanged for each other.");
        dueKinds(1, "2,0,0", "0 1 2 3 4 5");
        dueKinds(1, "0,0,0", "3 4 5");
        dueKinds(2, "1,0,1", "0 1 2 5");
        dueKinds(2, "2,0,1", "0 1 2 5");
        dueKinds(2, "3,0,1", "0 4 5");
        dueKinds(2, "4,0,1", "5");
        dueKinds(2, "5,0,1", "5");
        dueKinds(2, "3,0,1 0,2,0", "1 4 5");
        // with three and four lines: two of them, then all
        dueKinds(3, "1,0,1", "0 1 2");
        dueKinds(3, "3,0,1", "0 4");
        dueKinds(3, "3,0,1 3,3,2", "0 1 3 4 5");
        dueKinds(3, "3,0,1 3,3,2 0,4,0", "3 4 5");
        dueKinds(4, "3,0,1 3,4,2 3,5,3", "0 4 5");
        dueKinds(4, "1,0,1 1,4,2 1,5,3", "0 1 2 5");
        dueKinds(4, "1,0,1 1,4,2 4,5,3", "5");
        dueKinds(4, "1,0,1 1,2,3 2,4,5", "0 1 2");
        // whether more are 1 than 0
        dueKinds(3, "1,0,1 2,0,1 1,4,2 2,3,5", "0 1 2 3 5");
        // a, or b in place of c: not rising by a single step; a AND NOT d
        dueKinds(3, "0,0,0 1,3,1 1,0,2 2,4,5", "0 1");
        dueKinds(4, "0,3,0 1,4,0", "0");
        // the first and the last lines are exchanged with no harm, the others not
        dueKinds(4, "1,0,3 1,4,1", "0 1 2");
        for (int n = 2; n <= 4; n++) {
            for (int line = 0; line < n; line++) {
                dueKinds(n, "2," + line + "," + line, "0 1 2 3 4");
                dueKinds(n, "0," + line + ",0", "3 4");
            }
        }
    }

    private static void kindsOfTheSame() {
        Check.sentence(33, "Returns the set of the KINDS that the function of its OUTPUT has.");
        for (int n = 1; n <= 4; n++) {
            dueKinds(n, "3,0,0", "0 2 4 5");
            dueKinds(n, "3,0,0 0," + n + ",0", "1 2 4 5");
        }
        Gatesquare x = Squares.usual();
        Check.due(x.kinds(0), 2);
        Check.due(x.kinds(1), 1 + 2 + 8 + 16 + 32);
    }

    private static void setsOfGates() {
        Check.sentence(34, "if set is not 0 to 63");
        for (int set : Check.outside(0, 63)) {
            Check.refused(Check.ARGUMENT, USUAL, x -> x.makesAll(set));
            Check.refused(Check.ARGUMENT, Squares.wide(1), x -> x.makesAll(set));
        }
        Check.sentence(Check.DESCRIPTION, "A set of KINDS of GATES makes ALL, if of each of the KINDS of functions 0 to 4 some of these GATES is none (as functions of the WIRES at which they look).");
        for (int n = 1; n <= 4; n++) {
            Gatesquare x = Squares.ofLines(n);
            Check.due(x.makesAll(0), false);
            Check.due(x.makesAll(63), true);
            for (int set = 0; set < 64; set++) {
                boolean hasNand = set >> 4 != 0;
                boolean hasNotAndAnotherThanXor = set % 2 == 1 && (set & 0b110) != 0;
                Check.due(x.makesAll(set), hasNand || hasNotAndAnotherThanXor);
            }
        }
    }
}
