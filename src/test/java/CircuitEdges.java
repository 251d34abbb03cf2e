import java.util.function.Supplier;

/** The sentences on circuits: the first chapter, and the promises 1 to 11. */
final class CircuitEdges {
    private static final Supplier<Gatesquare> FRESH = Squares::fresh;
    private static final Supplier<Gatesquare> USUAL = Squares::usual;
    private static final Supplier<Gatesquare> FULL = Squares::full;
    private static final Supplier<Gatesquare> NARROW = Squares::narrow;

    private CircuitEdges() {
    }

    static void run() {
        Check.each(
                CircuitEdges::aNewSquare, CircuitEdges::aNewSquareIsItsOwn, CircuitEdges::numbersStartWithZero,
                CircuitEdges::noneIsBelow, CircuitEdges::linesByLetter, CircuitEdges::oneToFourLines,
                CircuitEdges::allGoesByLines, CircuitEdges::countsStayByLines, CircuitEdges::inputsOfEachWidth,
                CircuitEdges::wiresOfEachWidth, CircuitEdges::theLastWireIsTaken, CircuitEdges::aGateNeedsItsWires,
                CircuitEdges::notLooksAtOneWire, CircuitEdges::aGateNeedsItsKind, CircuitEdges::atMostTwelveGates,
                CircuitEdges::theFirstRefusalOfGate, CircuitEdges::kindsOfGatesByAllDigits,
                CircuitEdges::ungateTakesTheLast, CircuitEdges::ungateNeedsOneThatIsFree,
                CircuitEdges::rewireNeedsItsPlace, CircuitEdges::rewireNeedsItsSide, CircuitEdges::noRings,
                CircuitEdges::aLaterGateIsSeen, CircuitEdges::theFirstRefusalOfRewire,
                CircuitEdges::rewireTellsTheFirstInput, CircuitEdges::alterNeedsItsGate,
                CircuitEdges::alterKeepsNotApart, CircuitEdges::theFirstRefusalOfAlter,
                CircuitEdges::alterTellsTheFirstInput, CircuitEdges::theOutputIsAWire,
                CircuitEdges::outputTellsThatBefore, CircuitEdges::valueNeedsItsPlace,
                CircuitEdges::tableNeedsItsWire, CircuitEdges::tablesOfEachWidth, CircuitEdges::ofGateNeedsItsGate,
                CircuitEdges::ofGateNeedsItsNumber, CircuitEdges::levels, CircuitEdges::gatesThatLook,
                CircuitEdges::gatesThatCount, CircuitEdges::ofCircuitNeedsItsNumber,
                CircuitEdges::ofCircuitEmptyAndFull, CircuitEdges::linesOnWhichTheOutputHangs);
    }

    private static void aNewSquare() {
        Check.sentence(1, "Creates a square with three LINES and two CIRCUITS without GATES.");
        Gatesquare x = new Gatesquare();
        Check.dueEach(x::house, "3 0 0 0 0 0 0");
        for (int circuit = 0; circuit < 2; circuit++) {
            int c = circuit;
            Check.dueEach(what -> x.ofCircuit(c, what), "0 0 0 0 4 1");
            Check.due(x.table(c, 0), "01010101");
            Check.due(x.table(c, 1), "00110011");
            Check.due(x.table(c, 2), "00001111");
            Check.due(x.diagram(c), "a0 1");
            Check.due(x.nodes(c), 1);
            Check.due(x.bestOrder(c), "abc");
            Check.due(x.tests(c), "0 1");
            Check.due(x.silent(c), 4);
            Check.due(x.kinds(c), 31);
            Check.refused(Check.INDEX, FRESH, y -> y.table(c, 3));
            Check.refused(Check.INDEX, FRESH, y -> y.ofGate(c, 0, 0));
            Check.refused(Check.STATE, FRESH, y -> y.ungate(c));
        }
        Check.due(x.wanted(), "00000000");
        Check.due(x.primes() + x.needed() + x.cover(false) + x.cover(true), "");
        Check.due(x.race(), "-");
        Check.due(x.sum(), "0");
        Check.due(x.isAlike(), true);
        Check.due(x.parts(), -1);
        Check.due(x.isSound(), true);
        Check.refused(Check.STATE, FRESH, Gatesquare::undo);
    }

    private static void aNewSquareIsItsOwn() {
        Check.sentence(1, "Creates a square with three LINES and two CIRCUITS without GATES.");
        String before = Check.picture(new Gatesquare());
        Gatesquare other = Squares.full();
        other.wantKnown(0);
        other.knock();
        other.blank();
        Check.due(Check.picture(new Gatesquare()), before);
        Gatesquare untouched = new Gatesquare();
        String full = Check.picture(other);
        untouched.lines(1);
        untouched.want(0, 2);
        Check.due(Check.picture(other), full);
    }

    private static void numbersStartWithZero() {
        Check.sentence(Check.DESCRIPTION, "Numbers of things start with 0.");
        Gatesquare x = Squares.narrow();
        Check.due(x.value(0, 0, 0), 0);
        Check.due(x.ofGate(0, 0, 1), 0);
        Check.due(x.input(0, 0), 0);
        Check.due(x.wantKnown(0), 1);
        Check.due(x.house(0), 1);
        Check.refused(Check.INDEX, NARROW, y -> y.value(-1, 0, 0));
        Check.refused(Check.INDEX, NARROW, y -> y.value(0, -1, 0));
        Check.refused(Check.INDEX, NARROW, y -> y.value(0, 0, -1));
        Check.refused(Check.INDEX, NARROW, y -> y.ofGate(0, -1, 1));
        Check.refused(Check.ARGUMENT, NARROW, y -> y.ofGate(0, 0, -1));
        Check.refused(Check.ELEMENT, NARROW, y -> y.input(0, -1));
    }

    private static void noneIsBelow() {
        Check.sentence(Check.DESCRIPTION, "NONE is -1.");
        Gatesquare x = Squares.usual();
        Check.due(x.ofGate(0, 1, 2), -1);
        Check.due(x.rewire(0, 0, 0, 0), -1);
        Check.due(x.alter(0, 0, 1), -1);
        Check.due(new Gatesquare().parts(), -1);
    }

    private static void linesByLetter() {
        Check.sentence(Check.DESCRIPTION, "There are n LINES (1 to 4; 3 at first), \"a\" to \"d\", numbers 0 to n - 1.");
        Check.due(new Gatesquare().house(0), 3);
        for (int n = 1; n <= 4; n++) {
            int lines = n;
            Gatesquare x = Squares.ofLines(n);
            for (int line = 0; line < n; line++) {
                Check.due(x.output(0, line), Math.max(0, line - 1));
                Check.due(x.diagram(0), "abcd".charAt(line) + "0 1");
                x.wantTable(0);
                Check.due(x.sum(), "abcd".substring(line, line + 1));
            }
            Check.due(x.bestOrder(0), "abcd".substring(0, n));
            Check.refused(Check.INDEX, Squares.wide(n), y -> y.output(0, lines));
            Check.refused(Check.INDEX, Squares.wide(n), y -> y.table(0, lines));
        }
    }

    private static void oneToFourLines() {
        Check.sentence(2, "if n is not 1 to 4");
        for (int n = 1; n <= 4; n++) {
            Gatesquare x = Squares.usual();
            Check.due(x.lines(n), 1 << n);
            Check.due(x.house(0), n);
        }
        for (int n : Check.outside(1, 4)) {
            Check.refused(Check.ARGUMENT, USUAL, x -> x.lines(n));
            Check.refused(Check.ARGUMENT, FULL, x -> x.lines(n));
            Check.refused(Check.ARGUMENT, NARROW, x -> x.lines(n));
        }
    }

    private static void allGoesByLines() {
        Check.sentence(2, "All goes (CIRCUITS, WANTED, ORDER, what can be undone; not what is counted): there are so many LINES.");
        for (int n = 1; n <= 4; n++) {
            Gatesquare emptied = Squares.full();
            emptied.wantKnown(0);
            emptied.want(3, 2);
            emptied.lines(n);
            Gatesquare fresh = Squares.ofLines(n);
            Check.due(Check.picture(emptied), Check.picture(fresh));
            Check.due(emptied.house(4), 0);
            Check.due(Check.thrown(emptied, Gatesquare::undo), Check.STATE);
            Check.due(emptied.wanted(), "0000000000000000".substring(0, 1 << n));
            for (int circuit = 0; circuit < 2; circuit++) {
                Check.due(emptied.ofCircuit(circuit, 0), 0);
                Check.due(emptied.ofCircuit(circuit, 3), 0);
            }
            dueUsualOrder(emptied, n);
            Check.due(emptied.gate(1, 0, n - 1, 0), n);
        }
    }

    /** The order shows in the diagram of the odd number of lines. */
    private static void dueUsualOrder(Gatesquare x, int n) {
        String[] usual = {"a0 1", "b0 1;b1 0;a2 3", "c0 1;c1 0;b2 3;b3 2;a4 5", "d0 1;d1 0;c2 3;c3 2;b4 5;b5 4;a6 7"};
        for (int line = 1; line < n; line++) {
            x.output(0, x.gate(0, 3, line == 1 ? 0 : n + line - 2, line));
        }
        Check.due(x.diagram(0), usual[n - 1]);
    }

    private static void countsStayByLines() {
        Check.sentence(2, "All goes (CIRCUITS, WANTED, ORDER, what can be undone; not what is counted): there are so many LINES.");
        Gatesquare x = Squares.usual();
        x.blank();
        x.lines(2);
        x.lines(2);
        Check.dueEach(x::house, "2 0 0 0 0 2 1");
        Check.due(x.knock(), 2);
    }

    private static void inputsOfEachWidth() {
        Check.sentence(Check.DESCRIPTION, "An INPUT is a number from 0 to 2^n - 1: the LINE k has its digit at 2^k.");
        for (int n = 1; n <= 4; n++) {
            Gatesquare x = Squares.ofLines(n);
            for (int input = 0; input < 1 << n; input++) {
                for (int line = 0; line < n; line++) {
                    Check.due(x.value(0, line, input), input / (1 << line) % 2);
                }
            }
            for (int input : Check.outside(0, (1 << n) - 1)) {
                Check.refused(Check.INDEX, Squares.wide(n), y -> y.value(0, 0, input));
                Check.refused(Check.INDEX, Squares.wide(n), y -> y.want(input, 0));
            }
        }
    }

    private static void wiresOfEachWidth() {
        Check.sentence(Check.DESCRIPTION, "the LINES, then n + g for the GATE g");
        for (int n = 1; n <= 4; n++) {
            Gatesquare x = Squares.ofLines(n);
            for (int gate = 0; gate < 12; gate++) {
                Check.due(x.gate(1, gate % 6, n - 1, 0), n + gate);
                Check.due(x.table(1, n + gate).length(), 1 << n);
            }
            Check.due(x.ofCircuit(0, 0), 0);
            Check.due(x.output(1, n + 11), 0);
        }
    }

    private static void theLastWireIsTaken() {
        Check.sentence(3, "if there is no such CIRCUIT, or no such WIRE as first (or second)");
        Gatesquare x = Squares.usual();
        Check.due(x.gate(0, 1, 6, 0), 7);
        Check.due(x.gate(0, 1, 0, 7), 8);
        Check.due(x.gate(0, 0, 8, 0), 9);
        Check.due(x.gate(1, 5, 4, 4), 5);
        Check.dueEach(what -> x.ofGate(0, 5, what), "1 0 7 4 1 0");
        Gatesquare y = Squares.narrow();
        Check.due(y.gate(0, 2, 0, 1), 2);
        Check.due(y.gate(1, 2, 0, 0), 1);
    }

    private static void aGateNeedsItsWires() {
        Check.sentence(3, "if there is no such CIRCUIT, or no such WIRE as first (or second)");
        for (int circuit : Check.outside(0, 1)) {
            Check.refused(Check.INDEX, USUAL, x -> x.gate(circuit, 1, 0, 1));
            Check.refused(Check.INDEX, USUAL, x -> x.gate(circuit, 0, 0, 1));
        }
        for (int kind = 0; kind < 6; kind++) {
            int k = kind;
            for (int wire : new int[] {7, -1, Check.LEAST, Check.MOST}) {
                Check.refused(Check.INDEX, USUAL, x -> x.gate(0, k, wire, 0));
            }
            if (kind > 0) {
                for (int wire : Check.outside(0, 6)) {
                    Check.refused(Check.INDEX, USUAL, x -> x.gate(0, k, 0, wire));
                }
            }
        }
        for (int wire : Check.outside(0, 4)) {
            Check.refused(Check.INDEX, USUAL, x -> x.gate(1, 4, wire, 0));
            Check.refused(Check.INDEX, USUAL, x -> x.gate(1, 4, 0, wire));
        }
        for (int wire : Check.outside(0, 0)) {
            Check.refused(Check.INDEX, Squares.wide(1), x -> x.gate(0, 0, wire, 0));
            Check.refused(Check.INDEX, Squares.wide(1), x -> x.gate(1, 1, 0, wire));
        }
        for (int wire : Check.outside(0, 15)) {
            Check.refused(Check.INDEX, FULL, x -> x.gate(0, 1, wire, 0));
            Check.refused(Check.INDEX, FULL, x -> x.gate(1, 1, 15, wire));
        }
    }

    private static void notLooksAtOneWire() {
        Check.sentence(3, "the second one (not looked at, if kind is 0)");
        for (int second : new int[] {0, -1, 3, 4, 99, Check.LEAST, Check.MOST}) {
            Gatesquare x = new Gatesquare();
            Check.due(x.gate(0, 0, 2, second), 3);
            Check.dueEach(what -> x.ofGate(0, 0, what), "0 2 -1 1 0 0");
            Check.due(x.table(0, 3), "11110000");
            Check.due(x.tells(0, 0, 0), 0xAA);
            Check.due(x.ungate(0), 0);
        }
        Gatesquare x = new Gatesquare();
        x.gate(0, 1, 0, 1);
        x.gate(0, 0, 0, 3);
        Check.due(x.ofGate(0, 0, 4), 0);
        Check.due(x.ofGate(0, 1, 3), 1);
        Check.due(x.rewire(0, 0, 1, 4), -1);
        Check.due(x.table(0, 3), "00000000");
    }

    private static void aGateNeedsItsKind() {
        Check.sentence(3, "if kind is not 0 to 5");
        for (int kind = 0; kind < 6; kind++) {
            Gatesquare x = new Gatesquare();
            Check.due(x.gate(1, kind, 0, 1), 3);
            Check.due(x.ofGate(1, 0, 0), kind);
        }
        for (int kind : Check.outside(0, 5)) {
            Check.refused(Check.ARGUMENT, USUAL, x -> x.gate(0, kind, 0, 1));
            Check.refused(Check.ARGUMENT, USUAL, x -> x.gate(1, kind, 4, 4));
        }
    }

    private static void atMostTwelveGates() {
        Check.sentence(Check.DESCRIPTION, "Each has GATES, at most 12");
        Check.sentence(3, "if there are 12");
        Gatesquare x = Squares.ofLines(2);
        for (int gate = 0; gate < 12; gate++) {
            Check.due(x.ofCircuit(0, 0), gate);
            Check.due(x.gate(0, 1, gate, 1), gate + 2);
        }
        Check.due(x.ofCircuit(0, 0), 12);
        Check.due(Check.thrown(x, y -> y.gate(0, 1, 0, 1)), Check.STATE);
        Check.due(x.gate(1, 1, 0, 1), 2);
        Check.due(x.ungate(0), 11);
        Check.due(x.gate(0, 2, 12, 0), 13);
        Check.due(Check.thrown(x, y -> y.gate(0, 0, 0, 0)), Check.STATE);
        for (int kind = 0; kind < 6; kind++) {
            int k = kind;
            Check.refused(Check.STATE, FULL, y -> y.gate(0, k, 0, 1));
            Check.refused(Check.STATE, FULL, y -> y.gate(1, k, 15, 15));
        }
        Check.refused(Check.STATE, FULL, y -> y.gate(0, 0, 15, -1));
    }

    private static void theFirstRefusalOfGate() {
        Check.sentence(Check.DESCRIPTION, "If several exceptions apply, the one that is named first is thrown.");
        for (int kind : new int[] {-1, 6, Check.LEAST, Check.MOST}) {
            Check.refused(Check.INDEX, USUAL, x -> x.gate(2, kind, 0, 1));
            Check.refused(Check.INDEX, USUAL, x -> x.gate(0, kind, 7, 1));
            // the second wire is not looked at with kind 0 alone: so it is with a kind that is none
            Check.refused(Check.INDEX, USUAL, x -> x.gate(0, kind, 0, 7));
            Check.refused(Check.ARGUMENT, FULL, x -> x.gate(0, kind, 0, 15));
            Check.refused(Check.INDEX, FULL, x -> x.gate(0, kind, 16, 16));
        }
        Check.refused(Check.INDEX, FULL, x -> x.gate(-1, 1, 0, 1));
        Check.refused(Check.INDEX, FULL, x -> x.gate(0, 1, 16, 1));
        Check.refused(Check.INDEX, FULL, x -> x.gate(0, 1, 0, 16));
        Check.refused(Check.INDEX, FULL, x -> x.gate(0, 0, -1, 0));
    }

    private static void kindsOfGatesByAllDigits() {
        Check.sentence(Check.DESCRIPTION, "0 NOT (the first alone), 1 AND, 2 OR, 3 XOR (1 if both are unlike), 4 NAND (AND, turned), 5 NOR (OR, turned)");
        String[] tables = {"1010", "0001", "0111", "0110", "1110", "1000"};
        String[] ofLikes = {"10", "01", "01", "00", "10", "10"};
        for (int kind = 0; kind < 6; kind++) {
            Gatesquare x = Squares.ofLines(2);
            x.gate(0, kind, 0, 1);
            Check.due(x.table(0, 2), tables[kind]);
            for (int input = 0; input < 4; input++) {
                Check.due(x.value(0, 2, input), tables[kind].charAt(input) - '0');
            }
            Gatesquare y = Squares.ofLines(1);
            y.gate(0, kind, 0, 0);
            Check.due(y.table(0, 1), ofLikes[kind]);
        }
    }

    private static void ungateTakesTheLast() {
        Check.sentence(4, "Returns how many are left.");
        Gatesquare x = Squares.full();
        x.output(0, 0);
        x.output(1, 3);
        for (int left = 11; left >= 0; left--) {
            Check.due(x.ungate(0), left);
            Check.due(x.ofCircuit(0, 0), left);
            Check.due(Check.thrown(x, y -> y.table(0, y.ofCircuit(0, 0) + 4)), Check.INDEX);
            Check.due(x.ungate(1), left);
        }
        Check.due(Check.thrown(x, y -> y.ungate(0)), Check.STATE);
        Check.due(Check.thrown(x, y -> y.ungate(1)), Check.STATE);
        Check.due(x.gate(0, 1, 2, 3), 4);
        Check.due(x.table(0, 4), "0000000000001111");
    }

    private static void ungateNeedsOneThatIsFree() {
        Check.sentence(4, "if there is no such CIRCUIT");
        for (int circuit : Check.outside(0, 1)) {
            Check.refused(Check.INDEX, USUAL, x -> x.ungate(circuit));
            Check.refused(Check.INDEX, FRESH, x -> x.ungate(circuit));
        }
        Check.sentence(4, "if there is none, a GATE looks at it, or it is the OUTPUT");
        for (int n = 1; n <= 4; n++) {
            Check.refused(Check.STATE, Squares.wide(n), x -> x.ungate(0));
            Check.refused(Check.STATE, Squares.wide(n), x -> x.ungate(1));
        }
        // the OUTPUT a line: still none
        Check.refused(Check.STATE, () -> withOutput(Squares.fresh(), 2), x -> x.ungate(0));
        Check.refused(Check.STATE, () -> withOutput(Squares.usual(), 6), x -> x.ungate(0));
        Check.refused(Check.STATE, FULL, x -> x.ungate(0));
        for (int side = 0; side < 2; side++) {
            Gatesquare looked = lookedAt(side);
            int s = side;
            Check.refused(Check.STATE, () -> lookedAt(s), x -> x.ungate(0));
            looked.rewire(0, 0, side, 0);
            Check.due(looked.ungate(0), 3);
        }
        Gatesquare x = Squares.usual();
        Check.due(x.ungate(0), 3);
        Check.due(x.ofCircuit(0, 3), 5);
        Check.due(Check.thrown(x, y -> y.ungate(0)), Check.STATE);
        Check.due(x.output(0, 4), 5);
        Check.due(x.ungate(0), 2);
        Check.due(Check.thrown(x, y -> y.ungate(0)), Check.STATE);
        Check.due(x.output(0, 2), 4);
        Check.due(x.ungate(0), 1);
        Check.due(x.ungate(0), 0);
    }

    private static Gatesquare withOutput(Gatesquare x, int wire) {
        x.output(0, wire);
        return x;
    }

    /** The last gate of circuit 0 hangs on lines alone, and the first one looks at it. */
    private static Gatesquare lookedAt(int side) {
        Gatesquare x = Squares.usual();
        x.rewire(0, 3, 1, 1);
        x.rewire(0, 0, side, 6);
        return x;
    }

    private static void rewireNeedsItsPlace() {
        Check.sentence(5, "if there is no such CIRCUIT, GATE or WIRE");
        for (int circuit : Check.outside(0, 1)) {
            Check.refused(Check.INDEX, USUAL, x -> x.rewire(circuit, 0, 0, 0));
        }
        for (int gate : Check.outside(0, 3)) {
            Check.refused(Check.INDEX, USUAL, x -> x.rewire(0, gate, 0, 0));
        }
        for (int gate : Check.outside(0, 1)) {
            Check.refused(Check.INDEX, USUAL, x -> x.rewire(1, gate, 1, 0));
        }
        for (int gate : Check.outside(0, 11)) {
            Check.refused(Check.INDEX, FULL, x -> x.rewire(1, gate, 1, 0));
        }
        for (int gate : new int[] {0, -1, Check.LEAST, Check.MOST}) {
            Check.refused(Check.INDEX, FRESH, x -> x.rewire(0, gate, 0, 0));
        }
        for (int wire : Check.outside(0, 6)) {
            Check.refused(Check.INDEX, USUAL, x -> x.rewire(0, 3, 0, wire));
            Check.refused(Check.INDEX, USUAL, x -> x.rewire(0, 3, 1, wire));
        }
        for (int wire : Check.outside(0, 15)) {
            Check.refused(Check.INDEX, FULL, x -> x.rewire(1, 0, 0, wire));
        }
        Gatesquare x = Squares.usual();
        Check.due(x.rewire(0, 3, 0, 5), -1);
        Check.due(x.ofGate(0, 3, 1), 5);
        Check.due(x.rewire(0, 3, 1, 0), -1);
        Check.due(x.ofGate(0, 3, 2), 0);
        Check.due(x.rewire(0, 3, 0, 2), -1);
        Check.due(x.rewire(0, 0, 1, 6), 7);
        Check.dueEach(what -> x.ofGate(0, 0, what), "1 0 6 2 1 1");
    }

    private static void rewireNeedsItsSide() {
        Check.sentence(5, "if side is not 0 or 1, or 1 with NOT");
        for (int side : Check.outside(0, 1)) {
            Check.refused(Check.ARGUMENT, USUAL, x -> x.rewire(0, 0, side, 0));
            Check.refused(Check.ARGUMENT, USUAL, x -> x.rewire(0, 1, side, 0));
        }
        for (int wire : new int[] {0, 2, 3}) {
            Check.refused(Check.ARGUMENT, USUAL, x -> x.rewire(0, 1, 1, wire));
        }
        for (int kind = 1; kind < 6; kind++) {
            Gatesquare x = Squares.fresh();
            x.gate(0, kind, 0, 1);
            Check.due(x.rewire(0, 0, 1, 2), -1);
            Check.due(x.rewire(0, 0, 0, 2), -1);
            Check.dueEach(what -> x.ofGate(0, 0, what), kind + " 2 2 1 0 0");
        }
        Gatesquare x = Squares.usual();
        Check.due(x.rewire(0, 1, 0, 0), 1);
        Check.dueEach(what -> x.ofGate(0, 1, what), "0 0 -1 1 1 1");
    }

    private static void noRings() {
        Check.sentence(Check.DESCRIPTION, "no GATE at itself, nor by others at itself (that would be a RING)");
        Check.sentence(5, "if there would be a RING");
        for (int side = 0; side < 2; side++) {
            int s = side;
            for (int wire : new int[] {3, 5, 6}) {
                Check.refused(Check.STATE, USUAL, x -> x.rewire(0, 0, s, wire));
            }
            Check.refused(Check.STATE, USUAL, x -> x.rewire(0, 2, s, 5));
            Check.refused(Check.STATE, USUAL, x -> x.rewire(0, 3, s, 6));
            Check.refused(Check.STATE, USUAL, x -> x.rewire(1, 0, s, 4));
        }
        Check.refused(Check.STATE, USUAL, x -> x.rewire(0, 1, 0, 4));
        Check.refused(Check.STATE, USUAL, x -> x.rewire(0, 1, 0, 5));
        Check.refused(Check.STATE, NARROW, x -> x.rewire(0, 0, 0, 1));
        for (int wire = 4; wire < 16; wire++) {
            int w = wire;
            Check.refused(Check.STATE, FULL, x -> x.rewire(0, 0, 0, w));
            Check.refused(Check.STATE, FULL, x -> x.rewire(1, 0, 0, w));
            Check.refused(Check.STATE, FULL, x -> x.rewire(1, w - 4, 1, 15));
        }
        Check.refused(Check.STATE, CircuitEdges::ringThroughLaterGates, x -> x.rewire(0, 2, 0, 3));
        Check.refused(Check.STATE, CircuitEdges::ringThroughLaterGates, x -> x.rewire(0, 2, 1, 4));
        Gatesquare x = ringThroughLaterGates();
        Check.due(x.rewire(0, 2, 0, 1), -1);
        Check.due(x.rewire(0, 0, 0, 0), -1);
        Check.due(x.rewire(0, 2, 0, 3), -1);
    }

    /** Circuit 0: 3 looks at 4, 4 at 5: no ring, till 5 looks at one of both. */
    private static Gatesquare ringThroughLaterGates() {
        Gatesquare x = Squares.fresh();
        x.gate(0, 0, 0, 0);
        x.gate(0, 2, 0, 1);
        x.gate(0, 1, 1, 2);
        x.rewire(0, 1, 1, 5);
        x.rewire(0, 0, 0, 4);
        return x;
    }

    private static void aLaterGateIsSeen() {
        Check.sentence(Check.DESCRIPTION, "A GATE may look at one that came later");
        Gatesquare x = ringThroughLaterGates();
        Check.due(x.table(0, 5), "00000011");
        Check.due(x.table(0, 4), "01010111");
        Check.due(x.table(0, 3), "10101000");
        Check.due(x.ofGate(0, 0, 3), 3);
        // the longest such chain: each looks at the one that came next
        Gatesquare y = Squares.ofLines(4);
        for (int gate = 0; gate < 12; gate++) {
            y.gate(0, 0, 3, 0);
        }
        for (int gate = 0; gate < 11; gate++) {
            y.rewire(0, gate, 0, gate + 5);
        }
        y.output(0, 4);
        Check.due(y.ofGate(0, 0, 3), 12);
        Check.due(y.ofCircuit(0, 1), 12);
        Check.due(y.ofCircuit(0, 2), 12);
        for (int gate = 0; gate < 12; gate++) {
            Check.due(y.table(0, 4 + gate), gate % 2 == 0 ? "0000000011111111" : "1111111100000000");
            Check.due(y.tells(0, 4 + gate, 0), gate % 2 == 0 ? 0xFF00 : 0xFF);
        }
        Check.due(y.tells(0, 3, 1), 0xFF);
        Check.due(Check.thrown(y, z -> z.rewire(0, 11, 0, 4)), Check.STATE);
        Check.due(y.rewire(0, 11, 0, 0), 1);
        Check.due(Check.thrown(y, z -> z.ungate(0)), Check.STATE);
    }

    private static void theFirstRefusalOfRewire() {
        Check.sentence(Check.DESCRIPTION, "If several exceptions apply, the one that is named first is thrown.");
        Check.refused(Check.INDEX, USUAL, x -> x.rewire(2, 0, 2, 0));
        Check.refused(Check.INDEX, USUAL, x -> x.rewire(0, 4, 2, 0));
        Check.refused(Check.INDEX, USUAL, x -> x.rewire(0, 0, 2, 7));
        Check.refused(Check.INDEX, USUAL, x -> x.rewire(0, 1, 1, 7));
        Check.refused(Check.INDEX, USUAL, x -> x.rewire(0, 1, 1, -1));
        Check.refused(Check.ARGUMENT, USUAL, x -> x.rewire(0, 0, 2, 3));
        Check.refused(Check.ARGUMENT, USUAL, x -> x.rewire(0, 0, -1, 5));
        Check.refused(Check.ARGUMENT, USUAL, x -> x.rewire(0, 1, 1, 4));
        Check.refused(Check.ARGUMENT, USUAL, x -> x.rewire(0, 1, 1, 5));
    }

    private static void rewireTellsTheFirstInput() {
        Check.sentence(5, "Returns the first INPUT by which the OUTPUT tells something else than before; NONE without one.");
        Gatesquare x = Squares.ofGates(4, "1,0,1 1,2,3 1,4,5 3,0,0 5,7,7");
        x.output(0, 6);
        Check.due(x.rewire(0, 2, 1, 7), 15);
        Check.due(x.rewire(0, 2, 1, 7), -1);
        Check.due(x.rewire(0, 2, 0, 8), -1);
        Check.due(x.rewire(0, 2, 1, 8), 0);
        Check.due(x.table(0, 6), "1111111111111111");
        Check.due(x.rewire(0, 3, 1, 1), 1);
        Check.due(x.rewire(0, 1, 0, 1), -1);
        Gatesquare y = Squares.narrow();
        Check.due(y.gate(0, 1, 0, 0), 2);
        Check.due(y.output(0, 2), 1);
        Check.due(y.rewire(0, 1, 1, 1), 1);
    }

    private static void alterNeedsItsGate() {
        Check.sentence(6, "if there is no such CIRCUIT or GATE");
        for (int circuit : Check.outside(0, 1)) {
            Check.refused(Check.INDEX, USUAL, x -> x.alter(circuit, 0, 2));
        }
        for (int gate : Check.outside(0, 3)) {
            Check.refused(Check.INDEX, USUAL, x -> x.alter(0, gate, 2));
        }
        for (int gate : Check.outside(0, 1)) {
            Check.refused(Check.INDEX, USUAL, x -> x.alter(1, gate, 2));
        }
        for (int gate : Check.outside(0, 11)) {
            Check.refused(Check.INDEX, FULL, x -> x.alter(1, gate, 2));
        }
        for (int gate : new int[] {0, -1, Check.LEAST, Check.MOST}) {
            Check.refused(Check.INDEX, FRESH, x -> x.alter(1, gate, 0));
        }
        Gatesquare x = Squares.full();
        Check.due(x.alter(1, 11, 1), -1);
        Check.due(x.ofGate(1, 11, 0), 1);
        Check.due(x.alter(0, 11, 0), -1);
    }

    private static void alterKeepsNotApart() {
        Check.sentence(6, "if kind is not 0 to 5, or just one of the old and the new one is NOT");
        for (int before = 0; before < 6; before++) {
            int old = before;
            Supplier<Gatesquare> maker = () -> Squares.ofGates(2, old + ",0,1");
            for (int kind = 0; kind < 6; kind++) {
                int k = kind;
                if ((kind == 0) == (old == 0)) {
                    Gatesquare x = maker.get();
                    x.alter(0, 0, kind);
                    Check.due(x.ofGate(0, 0, 0), kind);
                    Check.due(x.house(4), 3);
                } else {
                    Check.refused(Check.ARGUMENT, maker, x -> x.alter(0, 0, k));
                }
            }
            for (int kind : Check.outside(0, 5)) {
                Check.refused(Check.ARGUMENT, maker, x -> x.alter(0, 0, kind));
            }
        }
    }

    private static void theFirstRefusalOfAlter() {
        Check.sentence(Check.DESCRIPTION, "If several exceptions apply, the one that is named first is thrown.");
        Check.refused(Check.INDEX, USUAL, x -> x.alter(2, 0, 6));
        Check.refused(Check.INDEX, USUAL, x -> x.alter(-1, 1, 1));
        Check.refused(Check.INDEX, USUAL, x -> x.alter(0, 4, 6));
        Check.refused(Check.INDEX, USUAL, x -> x.alter(0, -1, -1));
        Check.refused(Check.INDEX, FRESH, x -> x.alter(0, 0, 6));
    }

    private static void alterTellsTheFirstInput() {
        Check.sentence(6, "Returns the first INPUT by which the OUTPUT tells something else than before; NONE without one.");
        Gatesquare x = Squares.ofGates(4, "1,0,1 1,2,3 1,4,5 2,6,6 1,0,3");
        x.output(0, 7);
        Check.due(x.alter(0, 3, 3), 15);
        Check.due(x.alter(0, 3, 3), -1);
        Check.due(x.alter(0, 4, 4), -1);
        Check.due(x.alter(0, 3, 5), 0);
        Check.due(x.alter(0, 3, 4), -1);
        Check.due(x.alter(0, 0, 2), 13);
        Gatesquare y = Squares.ofGates(1, "2,0,0");
        Check.due(y.alter(0, 0, 1), -1);
        Check.due(y.alter(0, 0, 3), 1);
        Check.due(y.alter(0, 0, 4), 0);
    }

    private static void theOutputIsAWire() {
        Check.sentence(7, "if there is no such CIRCUIT or WIRE");
        for (int circuit : Check.outside(0, 1)) {
            Check.refused(Check.INDEX, USUAL, x -> x.output(circuit, 0));
        }
        for (int wire : Check.outside(0, 6)) {
            Check.refused(Check.INDEX, USUAL, x -> x.output(0, wire));
        }
        for (int wire : Check.outside(0, 4)) {
            Check.refused(Check.INDEX, USUAL, x -> x.output(1, wire));
        }
        for (int wire : Check.outside(0, 15)) {
            Check.refused(Check.INDEX, FULL, x -> x.output(0, wire));
        }
        for (int n = 1; n <= 4; n++) {
            for (int wire : Check.outside(0, n - 1)) {
                Check.refused(Check.INDEX, Squares.wide(n), x -> x.output(1, wire));
            }
        }
    }

    private static void outputTellsThatBefore() {
        Check.sentence(7, "Returns that before.");
        Check.sentence(Check.DESCRIPTION, "OUTPUT is a WIRE (0 at first).");
        Gatesquare x = Squares.full();
        Check.due(x.output(0, 0), 15);
        Check.due(x.output(0, 0), 0);
        Check.due(x.output(0, 15), 0);
        Check.due(x.output(0, 15), 15);
        Check.due(x.output(1, 3), 6);
        Check.due(x.ofCircuit(0, 3), 15);
        Gatesquare y = Squares.ofLines(1);
        Check.due(y.output(1, 0), 0);
        Check.due(y.output(0, 0), 0);
    }

    private static void valueNeedsItsPlace() {
        Check.sentence(8, "if there is no such CIRCUIT, WIRE or INPUT");
        for (int circuit : Check.outside(0, 1)) {
            Check.refused(Check.INDEX, USUAL, x -> x.value(circuit, 0, 0));
        }
        for (int wire : Check.outside(0, 6)) {
            Check.refused(Check.INDEX, USUAL, x -> x.value(0, wire, 0));
        }
        for (int wire : Check.outside(0, 4)) {
            Check.refused(Check.INDEX, USUAL, x -> x.value(1, wire, 7));
        }
        for (int input : Check.outside(0, 7)) {
            Check.refused(Check.INDEX, USUAL, x -> x.value(0, 5, input));
        }
        for (int wire : Check.outside(0, 15)) {
            Check.refused(Check.INDEX, FULL, x -> x.value(0, wire, 15));
        }
        for (int input : Check.outside(0, 15)) {
            Check.refused(Check.INDEX, FULL, x -> x.value(1, 15, input));
        }
        Gatesquare x = Squares.usual();
        Check.dueEach(input -> x.value(0, 6, input), "0 1 0 0 0 1 0 0");
        Check.dueEach(input -> x.value(0, 5, input), "1 1 1 1 0 0 0 1");
        Gatesquare full = Squares.full();
        Check.due(full.value(0, 15, 15), 1);
        Check.due(full.value(0, 15, 0), 0);
        Check.due(full.value(0, 14, 15), 0);
    }

    private static void tableNeedsItsWire() {
        Check.sentence(9, "if there is no such CIRCUIT or WIRE");
        for (int circuit : Check.outside(0, 1)) {
            Check.refused(Check.INDEX, USUAL, x -> x.table(circuit, 0));
        }
        for (int wire : Check.outside(0, 6)) {
            Check.refused(Check.INDEX, USUAL, x -> x.table(0, wire));
        }
        for (int wire : Check.outside(0, 4)) {
            Check.refused(Check.INDEX, USUAL, x -> x.table(1, wire));
        }
        for (int wire : Check.outside(0, 15)) {
            Check.refused(Check.INDEX, FULL, x -> x.table(1, wire));
        }
    }

    private static void tablesOfEachWidth() {
        Check.sentence(Check.DESCRIPTION, "A TABLE is a text: what is told by each INPUT, \"0\" or \"1\", the INPUT 0 first.");
        String[] tables = {"0101010101010101", "0011001100110011", "0000111100001111", "0000000011111111"};
        for (int n = 1; n <= 4; n++) {
            Gatesquare x = Squares.ofLines(n);
            for (int line = 0; line < n; line++) {
                Check.due(x.table(0, line), tables[line].substring(0, 1 << n));
                Check.due(x.table(1, line), tables[line].substring(0, 1 << n));
            }
            Check.due(x.table(0, x.gate(0, 3, 0, 0)), "0000000000000000".substring(0, 1 << n));
            Check.due(x.table(0, x.gate(0, 0, n, 0)), "1111111111111111".substring(0, 1 << n));
        }
        Gatesquare full = Squares.full();
        Check.due(full.table(0, 15), "0101010101010101");
        Check.due(full.table(0, 14), "1010101010101010");
        Check.due(full.table(1, 6), "0110100110010110");
    }

    private static void ofGateNeedsItsGate() {
        Check.sentence(10, "if there is no such CIRCUIT or GATE");
        for (int circuit : Check.outside(0, 1)) {
            Check.refused(Check.INDEX, USUAL, x -> x.ofGate(circuit, 0, 0));
            Check.refused(Check.INDEX, USUAL, x -> x.ofGate(circuit, 0, 6));
        }
        for (int gate : Check.outside(0, 3)) {
            Check.refused(Check.INDEX, USUAL, x -> x.ofGate(0, gate, 0));
            Check.refused(Check.INDEX, USUAL, x -> x.ofGate(0, gate, -1));
        }
        for (int gate : Check.outside(0, 11)) {
            Check.refused(Check.INDEX, FULL, x -> x.ofGate(1, gate, 3));
        }
        for (int gate : new int[] {0, -1, Check.LEAST, Check.MOST}) {
            Check.refused(Check.INDEX, FRESH, x -> x.ofGate(0, gate, 5));
        }
    }

    private static void ofGateNeedsItsNumber() {
        Check.sentence(10, "if what is not 0 to 5");
        for (int what : Check.outside(0, 5)) {
            Check.refused(Check.ARGUMENT, USUAL, x -> x.ofGate(0, 3, what));
            Check.refused(Check.ARGUMENT, USUAL, x -> x.ofGate(0, 1, what));
            Check.refused(Check.ARGUMENT, FULL, x -> x.ofGate(1, 11, what));
        }
        Gatesquare x = Squares.usual();
        Check.dueEach(what -> x.ofGate(0, 0, what), "1 0 1 1 2 1");
        Check.dueEach(what -> x.ofGate(0, 3, what), "3 0 3 2 0 0");
        Check.sentence(10, "0 KIND, 1 first WIRE, 2 second one (NONE with NOT), 3 LEVEL, 4 how many GATES look at it, 5 1 if it COUNTS, otherwise 0");
        Check.dueEach(what -> x.ofGate(0, 1, what), "0 2 -1 1 1 1");
        Gatesquare full = Squares.full();
        Check.dueEach(what -> full.ofGate(0, 11, what), "0 14 -1 12 0 1");
        Check.dueEach(what -> full.ofGate(0, 0, what), "0 0 -1 1 1 1");
        Check.dueEach(what -> full.ofGate(1, 11, what), "3 14 0 12 0 0");
        Check.dueEach(what -> full.ofGate(1, 2, what), "3 5 3 3 1 1");
    }

    private static void levels() {
        Check.sentence(Check.DESCRIPTION, "LEVEL of a LINE is 0, of a GATE 1 more than the greatest of those at which it looks.");
        for (int n = 1; n <= 4; n++) {
            Gatesquare x = Squares.ofLines(n);
            for (int line = 0; line < n; line++) {
                x.output(0, line);
                Check.due(x.ofCircuit(0, 2), 0);
            }
            for (int gate = 0; gate < 12; gate++) {
                x.gate(0, 2, gate == 0 ? 0 : n + gate - 1, n - 1);
                Check.due(x.ofGate(0, gate, 3), gate + 1);
                x.output(0, n + gate);
                Check.due(x.ofCircuit(0, 2), gate + 1);
            }
        }
        Gatesquare x = Squares.usual();
        Check.due(x.gate(0, 1, 2, 5), 7);
        Check.due(x.ofGate(0, 4, 3), 3);
        x.rewire(0, 4, 1, 3);
        Check.due(x.ofGate(0, 4, 3), 2);
        x.rewire(0, 4, 1, 0);
        Check.due(x.ofGate(0, 4, 3), 1);
        x.rewire(0, 4, 0, 6);
        Check.due(x.ofGate(0, 4, 3), 3);
    }

    private static void gatesThatLook() {
        Check.sentence(10, "4 how many GATES look at it");
        Gatesquare x = Squares.ofLines(2);
        for (int gate = 0; gate < 12; gate++) {
            x.gate(0, 1, gate == 0 ? 0 : 2, gate == 0 ? 1 : 2);
            // such a gate looks at it by both of its wires, and is one gate
            Check.due(x.ofGate(0, 0, 4), gate);
            Check.due(x.ofGate(0, gate, 4), 0);
        }
        x.rewire(0, 11, 0, 1);
        Check.due(x.ofGate(0, 0, 4), 11);
        x.rewire(0, 11, 1, 1);
        Check.due(x.ofGate(0, 0, 4), 10);
        x.output(0, 2);
        Check.due(x.ofGate(0, 0, 4), 10);
        x.gate(1, 1, 0, 1);
        x.gate(1, 1, 2, 2);
        Check.due(x.ofGate(0, 0, 4), 10);
        Check.due(x.ofGate(1, 0, 4), 1);
        Check.due(x.ofGate(1, 1, 4), 0);
    }

    private static void gatesThatCount() {
        Check.sentence(Check.DESCRIPTION, "A GATE COUNTS, if it is the OUTPUT, or one that COUNTS looks at it.");
        Gatesquare x = Squares.usual();
        Check.dueEach(gate -> x.ofGate(0, gate, 5), "1 1 1 0");
        x.output(0, 6);
        Check.dueEach(gate -> x.ofGate(0, gate, 5), "1 0 0 1");
        x.output(0, 4);
        Check.dueEach(gate -> x.ofGate(0, gate, 5), "0 1 0 0");
        x.output(0, 2);
        Check.dueEach(gate -> x.ofGate(0, gate, 5), "0 0 0 0");
        Check.due(x.ofCircuit(0, 1), 0);
        x.output(0, 0);
        x.rewire(0, 0, 1, 4);
        x.output(0, 6);
        Check.dueEach(gate -> x.ofGate(0, gate, 5), "1 1 0 1");
        Check.due(x.ofCircuit(0, 1), 3);
        Check.dueEach(gate -> x.ofGate(1, gate, 5), "1 1");
        Check.dueEach(gate -> Squares.full().ofGate(0, gate, 5), "1 1 1 1 1 1 1 1 1 1 1 1");
    }

    private static void ofCircuitNeedsItsNumber() {
        Check.sentence(11, "if there is no such CIRCUIT");
        for (int circuit : Check.outside(0, 1)) {
            Check.refused(Check.INDEX, USUAL, x -> x.ofCircuit(circuit, 0));
            Check.refused(Check.INDEX, USUAL, x -> x.ofCircuit(circuit, 6));
        }
        Check.sentence(11, "if what is not 0 to 5");
        for (int what : Check.outside(0, 5)) {
            Check.refused(Check.ARGUMENT, USUAL, x -> x.ofCircuit(0, what));
            Check.refused(Check.ARGUMENT, FRESH, x -> x.ofCircuit(1, what));
        }
    }

    private static void ofCircuitEmptyAndFull() {
        Check.sentence(11, "0 GATES, 1 those that COUNT, 2 LEVEL of the OUTPUT, 3 OUTPUT, 4 by how many INPUTS the OUTPUT is 1, 5 how many LINES the OUTPUT hangs on");
        Gatesquare one = Squares.ofLines(1);
        Check.dueEach(what -> one.ofCircuit(0, what), "0 0 0 0 1 1");
        Gatesquare usual = Squares.usual();
        Check.dueEach(what -> usual.ofCircuit(0, what), "4 3 2 5 5 3");
        Check.dueEach(what -> usual.ofCircuit(1, what), "2 2 2 4 4 3");
        Gatesquare full = Squares.full();
        Check.dueEach(what -> full.ofCircuit(0, what), "12 12 12 15 8 1");
        Check.dueEach(what -> full.ofCircuit(1, what), "12 3 3 6 8 4");
        full.alter(1, 0, 1);
        full.alter(1, 1, 1);
        full.alter(1, 2, 1);
        Check.dueEach(what -> full.ofCircuit(1, what), "12 3 3 6 1 4");
        full.alter(1, 2, 4);
        Check.dueEach(what -> full.ofCircuit(1, what), "12 3 3 6 15 4");
        Gatesquare ever = Squares.ofGates(4, "3,0,0 0,4,0");
        Check.dueEach(what -> ever.ofCircuit(0, what), "2 2 2 5 16 0");
        ever.output(0, 4);
        Check.dueEach(what -> ever.ofCircuit(0, what), "2 1 1 4 0 0");
    }

    private static void linesOnWhichTheOutputHangs() {
        Check.sentence(Check.DESCRIPTION, "A function that is the same everywhere is an end. Otherwise a NODE for the first LINE of ORDER on which it hangs");
        // a OR (a AND b) is a: it looks at b, and does not hang on it, in its diagram as in what is told of it
        Gatesquare x = Squares.ofGates(3, "1,0,1 2,0,3");
        Check.due(x.table(0, 4), "01010101");
        Check.due(x.diagram(0), "a0 1");
        Check.due(x.ofCircuit(0, 5), 1);
        // (a XOR b) XOR b
        Gatesquare y = Squares.ofGates(4, "3,0,1 3,4,1");
        Check.due(y.diagram(0), "a0 1");
        Check.due(y.ofCircuit(0, 5), 1);
        Check.due(y.rewire(0, 1, 1, 4), 1);
        Check.due(y.diagram(0), "0");
        Check.due(y.ofCircuit(0, 5), 0);
        for (int n = 1; n <= 4; n++) {
            Gatesquare z = Squares.ofLines(n);
            for (int lines = 1; lines <= n; lines++) {
                Check.due(z.ofCircuit(0, 5), lines);
                z.output(0, z.gate(0, 1, z.ofCircuit(0, 3), Math.min(lines, n - 1)));
            }
        }
    }
}
