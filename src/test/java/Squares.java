import java.util.function.Supplier;

/** Squares that the tests of the edges begin with. */
final class Squares {
    private Squares() {
    }

    static Gatesquare fresh() {
        return new Gatesquare();
    }

    static Gatesquare ofLines(int lines) {
        Gatesquare x = new Gatesquare();
        x.lines(lines);
        return x;
    }

    /**
     * Three lines. Circuit 0: 3 is a AND b, 4 is NOT c, 5 is 3 OR 4 and the OUTPUT, 6 is a XOR 3. Circuit 1 tells
     * whether an odd number of lines are 1, so its diagram shows ORDER. More than 8 calls that could be undone.
     */
    static Gatesquare usual() {
        Gatesquare x = new Gatesquare();
        x.gate(0, 1, 0, 1);
        x.gate(0, 0, 2, 0);
        x.gate(0, 2, 3, 4);
        x.gate(0, 3, 0, 3);
        x.gate(1, 3, 0, 1);
        x.gate(1, 3, 3, 2);
        x.output(1, 4);
        x.output(0, 5);
        x.wantTable(0);
        x.want(4, 2);
        x.order(1, 2, 0, 0);
        x.knock();
        x.blank();
        return x;
    }

    /** Four lines and 12 gates in each circuit: a chain of NOT from a in circuit 0, one of XOR in circuit 1. */
    static Gatesquare full() {
        Gatesquare x = ofLines(4);
        for (int gate = 0; gate < 12; gate++) {
            x.gate(0, 0, gate == 0 ? 0 : gate + 3, 0);
            x.gate(1, 3, gate == 0 ? 0 : gate + 3, (gate + 1) % 4);
        }
        x.output(0, 15);
        x.output(1, 6);
        x.order(2, 3, 1, 0);
        return x;
    }

    /** One line; circuit 0: 1 is NOT a, the OUTPUT. */
    static Gatesquare narrow() {
        Gatesquare x = ofLines(1);
        x.gate(0, 0, 0, 0);
        x.output(0, 1);
        x.want(1, 1);
        return x;
    }

    static Supplier<Gatesquare> wide(int lines) {
        return () -> ofLines(lines);
    }

    /** Circuit 0 of gates "kind,first,second" with a blank between two; the last gate is the OUTPUT. */
    static Gatesquare ofGates(int lines, String gates) {
        Gatesquare x = ofLines(lines);
        int wire = 0;
        for (String gate : gates.split(" ")) {
            String[] numbers = gate.split(",");
            wire = x.gate(0, Integer.parseInt(numbers[0]), Integer.parseInt(numbers[1]), Integer.parseInt(numbers[2]));
        }
        x.output(0, wire);
        return x;
    }

    /** The wanted table as a text, "-" for no meaning. */
    static Gatesquare wanting(String table) {
        Gatesquare x = ofLines(Integer.numberOfTrailingZeros(table.length()));
        for (int input = 0; input < table.length(); input++) {
            x.want(input, "01-".indexOf(table.charAt(input)));
        }
        return x;
    }
}
