import java.util.function.Supplier;

/** The sentences on diagrams: the third chapter, and the promises 22 to 28. */
final class DiagramEdges {
    private static final Supplier<Gatesquare> USUAL = Squares::usual;
    private static final Supplier<Gatesquare> FULL = Squares::full;
    private static final Supplier<Gatesquare> FRESH = Squares::fresh;
    /** (a AND b) OR (c AND d) */
    private static final String PAIRS = "1,0,1 1,2,3 2,4,5";
    /** By the order abcd its diagram has 9 nodes: with four lines there can not be more. */
    private static final String MOST_NODES = "5,1,2 1,3,0 5,5,2 3,1,5 3,6,0 1,4,8 0,5,7 5,2,0 4,1,1 2,9,12 3,6,7";
    /** The odd number of lines, for one to four of them. */
    private static final String[] ODD = {"2,0,0", "3,0,1", "3,0,1 3,3,2", "3,0,1 3,4,2 3,5,3"};
    private static final int[] JUNK = {0, -1, 3, 4, Check.LEAST, Check.MOST};

    private DiagramEdges() {
    }

    static void run() {
        Check.each(
                DiagramEdges::orderAtFirst, DiagramEdges::orderHasEachLineOnce, DiagramEdges::orderOutside,
                DiagramEdges::orderBehindIsNotLookedAt, DiagramEdges::orderTellsTheNodesThen,
                DiagramEdges::diagramsNeedTheirCircuit, DiagramEdges::ends,
                DiagramEdges::theFirstLineOnWhichItHangs, DiagramEdges::likeNodesAreThereOnce,
                DiagramEdges::numbersOfNodes, DiagramEdges::fewestAndMostNodes, DiagramEdges::bestOrderByLetters,
                DiagramEdges::bestOrderLeavesTheOrder, DiagramEdges::inputNeedsItsCircuit,
                DiagramEdges::inputNeedsItsNumber, DiagramEdges::inputOfNoneAndAll,
                DiagramEdges::circuitsThatAreAlike, DiagramEdges::whereCircuitsPart);
    }

    private static Gatesquare odd(int lines) {
        return Squares.ofGates(lines, ODD[lines - 1]);
    }

    private static void orderAtFirst() {
        Check.sentence(Check.DESCRIPTION, "ORDER: all LINES, each once (as they are at first).");
        Check.due(odd(1).diagram(0), "a0 1");
        Check.due(odd(2).diagram(0), "b0 1;b1 0;a2 3");
        Check.due(odd(3).diagram(0), "c0 1;c1 0;b2 3;b3 2;a4 5");
        Check.due(odd(4).diagram(0), "d0 1;d1 0;c2 3;c3 2;b4 5;b5 4;a6 7");
        Check.due(Squares.ofGates(4, MOST_NODES).diagram(0), "c1 0;c0 1;b2 3;d0 1;c1 5;d1 0;c0 7;b6 8;a4 9");
    }

    private static void orderHasEachLineOnce() {
        Check.sentence(22, "if not each LINE is there once");
        for (int n = 1; n <= 4; n++) {
            int lines = n;
            Gatesquare x = odd(n);
            int taken = 0;
            for (int drawn = 0; drawn < 1 << 2 * n; drawn++) {
                int[] told = new int[4];
                int seen = 0;
                for (int place = 0; place < n; place++) {
                    told[place] = drawn >> 2 * place & 3;
                    seen |= 1 << told[place];
                }
                if (seen == (1 << n) - 1) {
                    Check.due(x.order(told[0], told[1], told[2], told[3]), Math.max(1, 2 * n - 1));
                    taken++;
                    // the first line of the order is the last node that is done
                    String[] nodes = x.diagram(0).split(";");
                    Check.due(nodes[nodes.length - 1].charAt(0), "abcd".charAt(told[0]));
                    Check.due(nodes[0].charAt(0), "abcd".charAt(told[n - 1]));
                } else {
                    Check.refused(Check.ARGUMENT, () -> odd(lines), y -> y.order(told[0], told[1], told[2], told[3]));
                }
            }
            Check.due(taken, new int[] {1, 2, 6, 24}[n - 1]);
        }
    }

    private static void orderOutside() {
        Check.sentence(22, "if not each LINE is there once");
        for (int n = 1; n <= 4; n++) {
            int lines = n;
            for (int place = 0; place < n; place++) {
                int odd = place;
                for (int line : Check.outside(0, n - 1)) {
                    Check.refused(Check.ARGUMENT, Squares.wide(lines), x -> x.order(odd == 0 ? line : 0,
                            odd == 1 ? line : 1, odd == 2 ? line : 2, odd == 3 ? line : 3));
                }
            }
        }
        Check.refused(Check.ARGUMENT, USUAL, x -> x.order(0, 1, 3, 2));
        Check.refused(Check.ARGUMENT, USUAL, x -> x.order(1, 2, 1, 0));
        Check.refused(Check.ARGUMENT, FULL, x -> x.order(3, 2, 1, 1));
        Check.refused(Check.ARGUMENT, FULL, x -> x.order(3, 3, 3, 3));
    }

    private static void orderBehindIsNotLookedAt() {
        Check.sentence(22, "the second one (with fewer LINES the ones behind are not looked at)");
        for (int junk : JUNK) {
            Check.due(odd(1).order(0, junk, junk, junk), 1);
            Check.due(odd(2).order(1, 0, junk, junk), 3);
            Gatesquare x = odd(3);
            Check.due(x.order(2, 0, 1, junk), 5);
            Check.due(x.diagram(0), "b0 1;b1 0;a2 3;a3 2;c4 5");
            Check.due(x.bestOrder(0), "abc");
        }
        Check.refused(Check.ARGUMENT, Squares.wide(1), x -> x.order(1, 0, 0, 0));
        Check.refused(Check.ARGUMENT, Squares.wide(2), x -> x.order(0, 2, 1, 3));
    }

    private static void orderTellsTheNodesThen() {
        Check.sentence(22, "Returns how many NODES the DIAGRAM of the CIRCUIT 0 has then.");
        Gatesquare x = Squares.ofGates(4, PAIRS);
        Check.due(x.output(1, 3), 0);
        Check.due(x.order(0, 2, 1, 3), 6);
        Check.due(x.nodes(0), 6);
        Check.due(x.diagram(0), "d0 1;c0 2;b0 1;b2 1;c4 5;a3 6");
        Check.due(x.diagram(1), "d0 1");
        Check.due(x.order(3, 2, 1, 0), 4);
        Check.due(x.order(3, 2, 1, 0), 4);
        Check.due(x.output(0, 0), 6);
        Check.due(x.order(0, 2, 1, 3), 1);
        Check.due(x.output(0, x.gate(0, 3, 6, 6)), 0);
        Check.due(x.order(0, 1, 2, 3), 0);
    }

    private static void diagramsNeedTheirCircuit() {
        for (int circuit : Check.outside(0, 1)) {
            Check.sentence(23, "if there is no such CIRCUIT");
            Check.refused(Check.INDEX, USUAL, x -> x.diagram(circuit));
            Check.sentence(24, "if there is no such CIRCUIT");
            Check.refused(Check.INDEX, USUAL, x -> x.nodes(circuit));
            Check.sentence(25, "if there is no such CIRCUIT");
            Check.refused(Check.INDEX, USUAL, x -> x.bestOrder(circuit));
        }
    }

    private static void ends() {
        Check.sentence(Check.DESCRIPTION, "with \";\" between; \"0\" or \"1\" if it is an end");
        for (int n = 1; n <= 4; n++) {
            Gatesquare x = Squares.ofGates(n, "3,0,0");
            Check.due(x.diagram(0), "0");
            Check.due(x.nodes(0), 0);
            Check.due(x.order(n - 1, n > 1 ? n - 2 : 0, n > 2 ? n - 3 : 0, 0), 0);
            Check.due(x.alter(0, 0, 4), 0);
            Check.due(x.diagram(0), "a1 0");
            x.output(0, x.gate(0, 2, 0, n));
            Check.due(x.diagram(0), "1");
            Check.due(x.nodes(0), 0);
            Check.due(x.bestOrder(0), "abcd".substring(0, n));
        }
    }

    private static void theFirstLineOnWhichItHangs() {
        Check.sentence(Check.DESCRIPTION, "a NODE for the first LINE of ORDER on which it hangs: that LINE, then what it is with the LINE 0 (low), and 1 (high), each again a NODE or an end");
        for (int n = 1; n <= 4; n++) {
            for (int line = 0; line < n; line++) {
                Gatesquare x = Squares.ofLines(n);
                x.output(0, line);
                Check.due(x.diagram(0), "abcd".charAt(line) + "0 1");
                x.output(1, x.gate(1, 0, line, 0));
                Check.due(x.diagram(1), "abcd".charAt(line) + "1 0");
            }
        }
        // b decides between NOT c and a: by abc, by bca
        Gatesquare x = Squares.ofGates(3, "1,0,1 5,1,2 2,3,4");
        Check.due(x.table(0, 5), "11010001");
        Check.due(x.diagram(0), "c1 0;b2 0;b2 1;a3 4");
        Check.due(x.order(1, 2, 0, 0), 3);
        Check.due(x.diagram(0), "c1 0;a0 1;b2 3");
        // low and high are as the line tells, not as the text begins
        Check.due(Squares.ofGates(2, "5,0,1").diagram(0), "b1 0;a2 0");
        Check.due(Squares.ofGates(2, "1,0,1").diagram(0), "b0 1;a0 2");
        Check.due(Squares.ofGates(2, "2,0,1").diagram(0), "b0 1;a2 1");
        Check.due(Squares.ofGates(2, "4,0,1").diagram(0), "b1 0;a1 2");
    }

    private static void likeNodesAreThereOnce() {
        Check.sentence(Check.DESCRIPTION, "Like NODES are there once.");
        Check.due(odd(4).nodes(0), 7);
        Check.due(Squares.ofGates(4, PAIRS).diagram(0), "d0 1;c0 2;b3 1;a3 4");
        Gatesquare x = Squares.ofGates(4, MOST_NODES);
        Check.due(x.order(3, 2, 1, 0), 8);
        Check.due(x.diagram(0), "b1 0;b0 1;c2 3;a0 1;a1 0;b5 6;c2 7;d4 8");
    }

    private static void numbersOfNodes() {
        Check.sentence(Check.DESCRIPTION, "They are numbered from 2 on, as they are done: all of low first, then all of high, then the NODE itself.");
        Check.due(Squares.ofGates(3, "1,0,1 0,0,0 1,4,2 2,3,5").diagram(0), "c0 1;b0 1;a2 3");
        Gatesquare x = Squares.ofGates(3, "1,0,1 0,0,0 1,4,2 2,3,5");
        Check.due(x.order(1, 2, 0, 0), 5);
        Check.due(x.diagram(0), "a1 0;c0 2;a0 1;c4 1;b3 5");
        Check.due(Squares.ofGates(4, MOST_NODES).diagram(0), "c1 0;c0 1;b2 3;d0 1;c1 5;d1 0;c0 7;b6 8;a4 9");
    }

    private static void fewestAndMostNodes() {
        Check.sentence(24, "Returns how many NODES it has.");
        Check.due(Squares.ofGates(4, MOST_NODES).nodes(0), 9);
        Check.due(Squares.ofGates(4, MOST_NODES).nodes(1), 1);
        Check.due(Squares.ofGates(3, "0,1,1 4,2,3 3,4,4 1,3,0 2,0,5 4,7,4 2,5,1 3,9,3 2,6,0 5,8,6 3,7,4").nodes(0), 5);
        Check.due(odd(2).nodes(0), 3);
        Check.due(odd(1).nodes(0), 1);
        Check.due(Squares.ofGates(1, "3,0,0").nodes(0), 0);
    }

    private static void bestOrderByLetters() {
        Check.sentence(25, "Returns the ORDER by which that has the fewest NODES, as letters (of several the first by its letters).");
        for (int n = 1; n <= 4; n++) {
            Check.due(odd(n).bestOrder(0), "abcd".substring(0, n));
            Check.due(odd(n).bestOrder(1), "abcd".substring(0, n));
            Check.due(Squares.ofGates(n, "3,0,0").bestOrder(0), "abcd".substring(0, n));
        }
        Check.due(Squares.ofGates(4, PAIRS).bestOrder(0), "abcd");
        Check.due(Squares.ofGates(4, "1,0,3 1,1,2 2,4,5").bestOrder(0), "adbc");
        Check.due(Squares.ofGates(4, "1,0,2 1,1,3 2,4,5").bestOrder(0), "acbd");
        Check.due(Squares.ofGates(4, MOST_NODES).bestOrder(0), "adcb");
        Check.due(Squares.ofGates(4, "4,3,2 5,4,1 2,1,0 0,2,1 3,7,3 2,1,8 3,6,4 2,10,9 3,2,3 5,1,10 2,12,13").bestOrder(0), "cdab");
        Check.due(Squares.ofGates(3, "1,0,1 5,1,2 2,3,4").bestOrder(0), "bac");
        // the best order of a function may have 8 nodes, and not more
        Gatesquare wide = Squares.ofGates(4, "3,1,3 3,3,2 3,5,0 4,3,2 3,1,7 4,6,8");
        Check.due(wide.order(3, 2, 1, 0), 8);
        Check.due(wide.bestOrder(0), "abcd");
        Check.due(wide.nodes(0), 8);
        Gatesquare other = Squares.ofGates(4, "0,0,3 5,3,4 2,3,5 1,2,6 4,6,5 2,1,5 3,7,9 3,0,10");
        Check.due(other.nodes(0), 9);
        Check.due(other.bestOrder(0), "abdc");
        Check.due(other.order(0, 1, 3, 2), 8);
        Check.due(Squares.ofGates(3, "1,0,1 0,0,0 1,4,2 2,3,5").bestOrder(0), "abc");
    }

    private static void bestOrderLeavesTheOrder() {
        Check.sentence(25, "Returns the ORDER by which that has the fewest NODES, as letters (of several the first by its letters).");
        Gatesquare x = Squares.ofGates(4, "1,0,3 1,1,2 2,4,5");
        Check.due(x.order(3, 1, 0, 2), 6);
        String before = x.diagram(0);
        int undoable = x.house(4);
        Check.due(x.bestOrder(0), "adbc");
        Check.due(x.bestOrder(1), "abcd");
        Check.due(x.isSound(), true);
        Check.due(x.diagram(0), before);
        Check.due(x.nodes(0), 6);
        Check.due(x.house(4), undoable);
    }

    private static void inputNeedsItsCircuit() {
        Check.sentence(26, "if there is no such CIRCUIT");
        for (int circuit : Check.outside(0, 1)) {
            Check.refused(Check.INDEX, USUAL, x -> x.input(circuit, 0));
        }
        Check.sentence(Check.DESCRIPTION, "If several exceptions apply, the one that is named first is thrown.");
        for (int k : new int[] {-1, 5, Check.LEAST, Check.MOST}) {
            Check.refused(Check.INDEX, USUAL, x -> x.input(2, k));
            Check.refused(Check.INDEX, USUAL, x -> x.input(-1, k));
        }
    }

    private static void inputNeedsItsNumber() {
        Check.sentence(26, "if k is below 0, or there are not so many");
        Check.dueEach(k -> Squares.usual().input(0, k), "0 1 2 3 7");
        Check.dueEach(k -> Squares.usual().input(1, k), "1 2 4 7");
        for (int k : Check.outside(0, 4)) {
            Check.refused(Check.ELEMENT, USUAL, x -> x.input(0, k));
        }
        for (int k : Check.outside(0, 3)) {
            Check.refused(Check.ELEMENT, FRESH, x -> x.input(1, k));
        }
    }

    private static void inputOfNoneAndAll() {
        Check.sentence(26, "if k is below 0, or there are not so many");
        for (int n = 1; n <= 4; n++) {
            int lines = n;
            Supplier<Gatesquare> never = () -> Squares.ofGates(lines, "3,0,0");
            Supplier<Gatesquare> ever = () -> Squares.ofGates(lines, "3,0,0 0," + lines + ",0");
            Gatesquare x = ever.get();
            for (int k = 0; k < 1 << n; k++) {
                Check.due(x.input(0, k), k);
            }
            for (int k : new int[] {-1, 0, 1, Check.LEAST, Check.MOST}) {
                Check.refused(Check.ELEMENT, never, y -> y.input(0, k));
            }
            for (int k : Check.outside(0, (1 << n) - 1)) {
                Check.refused(Check.ELEMENT, ever, y -> y.input(0, k));
            }
        }
        Check.due(Squares.ofGates(4, "1,0,1 1,2,3 1,4,5").input(0, 0), 15);
        Check.due(Squares.ofGates(4, "2,0,1 2,2,3 5,4,5").input(0, 0), 0);
    }

    private static void circuitsThatAreAlike() {
        Check.sentence(Check.DESCRIPTION, "Two CIRCUITS are ALIKE, if the TABLES of their OUTPUTS are the same.");
        for (int n = 1; n <= 4; n++) {
            Check.due(Squares.ofLines(n).isAlike(), true);
        }
        Gatesquare x = Squares.ofLines(2);
        x.output(0, x.gate(0, 4, 0, 1));
        Check.due(x.isAlike(), false);
        x.gate(1, 0, 0, 0);
        x.gate(1, 0, 1, 0);
        x.output(1, x.gate(1, 2, 2, 3));
        Check.due(x.isAlike(), true);
        Check.due(x.parts(), -1);
        x.alter(1, 2, 3);
        Check.due(x.isAlike(), false);
        Check.due(x.parts(), 0);
        // other wires may differ
        x.output(0, 0);
        x.output(1, 0);
        Check.due(x.isAlike(), true);
    }

    private static void whereCircuitsPart() {
        Check.sentence(28, "Returns the first INPUT by which their OUTPUTS differ; NONE without one.");
        for (int n = 1; n <= 4; n++) {
            Gatesquare x = Squares.ofLines(n);
            Check.due(x.parts(), -1);
            int never = x.gate(0, 3, 0, 0);
            x.output(0, never);
            Check.due(x.parts(), 1);
            x.output(1, n - 1);
            Check.due(x.parts(), 1 << n - 1);
            x.output(1, x.gate(1, 0, n - 1, 0));
            Check.due(x.parts(), 0);
            int all = 0;
            for (int line = 1; line < n; line++) {
                all = x.gate(1, 1, all, line);
            }
            x.output(1, all);
            Check.due(x.parts(), (1 << n) - 1);
            x.output(1, x.gate(1, 3, all, all));
            Check.due(x.parts(), -1);
            Check.due(x.isAlike(), true);
        }
    }
}
