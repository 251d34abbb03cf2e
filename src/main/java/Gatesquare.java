import java.util.NoSuchElementException;

/** A square of gates: two circuits, a wanted table, diagrams, faults and kinds of functions. */
public final class Gatesquare {
    private static final int NONE = -1;
    private static final int MOST_LINES = 4;
    private static final int MOST_INPUTS = 16;
    private static final int MOST_GATES = 12;
    private static final int MOST_WIRES = 16;
    private static final int MOST_UNDO = 8;
    private static final int GATE_KINDS = 6;
    private static final int NOT = 0;
    private static final int AND = 1;
    private static final int OR = 2;
    private static final int XOR = 3;
    private static final int NAND = 4;
    private static final int NOR = 5;
    private static final int EMPTY_DRAWER = -9;

    private final State now = new State();
    private final History history = new History();
    private final Bench bench = new Bench();
    private final PrimeList primeList = new PrimeList();
    private final Choice choice = new Choice();
    private final Drawing drawing = new Drawing();
    /** All texts are written here: what a run makes is counted, so no call makes a builder of its own. */
    private final StringBuilder pen = new StringBuilder();
    private int blanks;
    private int knocks;

    public Gatesquare() {
        now.reset(3);
    }

    // ---- circuits

    public int lines(int n) throws IllegalArgumentException {
        if (n < 1 || n > MOST_LINES) {
            throw new IllegalArgumentException("there are 1 to 4 lines");
        }
        now.reset(n);
        history.forget();
        return inputCount();
    }

    public int gate(int circuit, int kind, int first, int second)
            throws IndexOutOfBoundsException, IllegalArgumentException, IllegalStateException {
        Circuit c = circuitAt(circuit);
        checkWire(c, first);
        if (kind != NOT) {
            checkWire(c, second);
        }
        checkGateKind(kind);
        if (c.gates >= MOST_GATES) {
            throw new IllegalStateException("there are 12 gates");
        }
        history.save(now);
        return c.add(kind, first, second);
    }

    public int ungate(int circuit) throws IndexOutOfBoundsException, IllegalStateException {
        Circuit c = circuitAt(circuit);
        int last = c.wireCount() - 1;
        if (c.gates == 0 || c.outputWire == last || c.lookersAt(last) > 0) {
            throw new IllegalStateException("no last gate that can go");
        }
        history.save(now);
        c.gates--;
        return c.gates;
    }

    public int rewire(int circuit, int gate, int side, int wire)
            throws IndexOutOfBoundsException, IllegalArgumentException, IllegalStateException {
        Circuit c = circuitAt(circuit);
        checkGate(c, gate);
        checkWire(c, wire);
        if (side < 0 || side > 1 || side == 1 && c.kindOf(gate) == NOT) {
            throw new IllegalArgumentException("no such side");
        }
        if (Tables.has(c.under(wire), c.wireOf(gate))) {
            throw new IllegalStateException("a ring");
        }
        int before = bench.outputTable(c);
        history.save(now);
        c.look(gate, side, wire);
        return Tables.firstIn(before ^ bench.outputTable(c));
    }

    public int alter(int circuit, int gate, int kind)
            throws IndexOutOfBoundsException, IllegalArgumentException {
        Circuit c = circuitAt(circuit);
        checkGate(c, gate);
        checkGateKind(kind);
        if ((c.kindOf(gate) == NOT) != (kind == NOT)) {
            throw new IllegalArgumentException("not looks at one wire, the others at two");
        }
        int before = bench.outputTable(c);
        history.save(now);
        c.setKind(gate, kind);
        return Tables.firstIn(before ^ bench.outputTable(c));
    }

    public int output(int circuit, int wire) throws IndexOutOfBoundsException {
        Circuit c = circuitAt(circuit);
        checkWire(c, wire);
        history.save(now);
        int before = c.outputWire;
        c.outputWire = wire;
        return before;
    }

    public int value(int circuit, int wire, int input) throws IndexOutOfBoundsException {
        Circuit c = circuitAt(circuit);
        checkWire(c, wire);
        checkInput(input);
        return Tables.has(bench.wireTable(c, wire), input) ? 1 : 0;
    }

    public String table(int circuit, int wire) throws IndexOutOfBoundsException {
        Circuit c = circuitAt(circuit);
        checkWire(c, wire);
        return tableText(bench.wireTable(c, wire), 0);
    }

    public int ofGate(int circuit, int gate, int what)
            throws IndexOutOfBoundsException, IllegalArgumentException {
        Circuit c = circuitAt(circuit);
        checkGate(c, gate);
        int wire = c.wireOf(gate);
        switch (what) {
            case 0:
                return c.kindOf(gate);
            case 1:
                return c.firstOf(gate);
            case 2:
                return c.secondOf(gate);
            case 3:
                return c.levelOf(wire);
            case 4:
                return c.lookersAt(wire);
            case 5:
                return Tables.has(c.under(c.outputWire), wire) ? 1 : 0;
            default:
                throw new IllegalArgumentException("no such thing of a gate");
        }
    }

    public int ofCircuit(int circuit, int what)
            throws IndexOutOfBoundsException, IllegalArgumentException {
        Circuit c = circuitAt(circuit);
        switch (what) {
            case 0:
                return c.gates;
            case 1:
                return Integer.bitCount(c.gatesIn(c.under(c.outputWire)));
            case 2:
                return c.levelOf(c.outputWire);
            case 3:
                return c.outputWire;
            case 4:
                return Integer.bitCount(bench.outputTable(c));
            case 5:
                return Tables.linesOf(bench.outputTable(c), now.lines);
            default:
                throw new IllegalArgumentException("no such thing of a circuit");
        }
    }

    // ---- the wanted table

    public int want(int input, int value)
            throws IndexOutOfBoundsException, IllegalArgumentException {
        checkInput(input);
        if (value < 0 || value > 2) {
            throw new IllegalArgumentException("wanted is 0, 1 or 2");
        }
        history.save(now);
        int before = now.wantedAt(input);
        now.setWanted(input, value);
        return before;
    }

    public int wantTable(int circuit) throws IndexOutOfBoundsException {
        Circuit c = circuitAt(circuit);
        return wantAll(bench.outputTable(c));
    }

    public int wantKnown(int known) throws IllegalArgumentException {
        if (known < 0 || known > 3) {
            throw new IllegalArgumentException("known tables are 0 to 3");
        }
        int ones = 0;
        for (int input = 0; input < inputCount(); input++) {
            if (isKnownOne(known, input)) {
                ones |= 1 << input;
            }
        }
        return wantAll(ones);
    }

    public String wanted() {
        return tableText(now.ones, now.free);
    }

    public String primes() {
        primeList.find(now);
        return primeText(primeList.everyOne());
    }

    public String needed() {
        primeList.find(now);
        return primeText(primeList.neededOnes());
    }

    public String cover(boolean isCalm) {
        return primeText(chooseCover(isCalm));
    }

    public int ofCover(boolean isCalm, int what) throws IllegalArgumentException {
        if (what < 0 || what > 3) {
            throw new IllegalArgumentException("no such thing of a cover");
        }
        int chosen = chooseCover(isCalm);
        switch (what) {
            case 0:
                return Integer.bitCount(chosen);
            case 1:
                return primeList.signsOf(chosen);
            case 2:
                return Integer.bitCount(primeList.inputsOf(chosen) & now.free);
            default:
                return Long.bitCount(primeList.racesOf(chosen));
        }
    }

    public String race() {
        long races = primeList.racesOf(chooseCover(false));
        for (int low = 0; low < MOST_INPUTS; low++) {
            for (int line = 0; line < MOST_LINES; line++) {
                int high = low | 1 << line;
                if (high != low && (races & PrimeList.pairBit(low, line)) != 0) {
                    return newText().append(low).append(' ').append(high).toString();
                }
            }
        }
        return "-";
    }

    public String sum() {
        int products = Tables.productsOf(now.ones, now.lines);
        if (products == 0) {
            return "0";
        }
        StringBuilder text = newText();
        for (int set = 0; set < inputCount(); set++) {
            if (Tables.has(products, set)) {
                if (text.length() > 0) {
                    text.append('^');
                }
                addProduct(text, set);
            }
        }
        return text.toString();
    }

    // ---- diagrams

    public int order(int a, int b, int c, int d) throws IllegalArgumentException {
        int order = orderOf(a, b, c, d);
        if (order == NONE) {
            throw new IllegalArgumentException("an order has each line once");
        }
        history.save(now);
        now.order = order;
        return nodes(0);
    }

    public String diagram(int circuit) throws IndexOutOfBoundsException {
        Circuit c = circuitAt(circuit);
        drawing.draw(bench.outputTable(c), now.lines, now.order);
        StringBuilder text = newText();
        drawing.writeTo(text);
        return text.toString();
    }

    public int nodes(int circuit) throws IndexOutOfBoundsException {
        Circuit c = circuitAt(circuit);
        drawing.draw(bench.outputTable(c), now.lines, now.order);
        return drawing.count;
    }

    public String bestOrder(int circuit) throws IndexOutOfBoundsException {
        Circuit c = circuitAt(circuit);
        int best = findBestOrder(bench.outputTable(c));
        StringBuilder text = newText();
        for (int place = 0; place < now.lines; place++) {
            text.append(letter(Orders.lineAt(best, place, now.lines)));
        }
        return text.toString();
    }

    public int input(int circuit, int k) throws IndexOutOfBoundsException, NoSuchElementException {
        Circuit c = circuitAt(circuit);
        int table = bench.outputTable(c);
        if (k < 0 || k >= Integer.bitCount(table)) {
            throw new NoSuchElementException("not so many inputs");
        }
        int left = k;
        for (int input = 0; input < inputCount(); input++) {
            if (Tables.has(table, input)) {
                if (left == 0) {
                    return input;
                }
                left--;
            }
        }
        return NONE;
    }

    public boolean isAlike() {
        return parts() == NONE;
    }

    public int parts() {
        int tableOfZero = bench.outputTable(now.zero);
        return Tables.firstIn(tableOfZero ^ bench.outputTable(now.one));
    }

    // ---- faults, kinds

    public int tells(int circuit, int wire, int value)
            throws IndexOutOfBoundsException, IllegalArgumentException {
        Circuit c = circuitAt(circuit);
        checkFault(c, wire, value);
        return bench.tellers(c, wire, value);
    }

    public int test(int circuit, int wire, int value)
            throws IndexOutOfBoundsException, IllegalArgumentException, NoSuchElementException {
        Circuit c = circuitAt(circuit);
        checkFault(c, wire, value);
        int tellers = bench.tellers(c, wire, value);
        if (tellers == 0) {
            throw new NoSuchElementException("a silent fault");
        }
        return Tables.firstIn(tellers);
    }

    public int silent(int circuit) throws IndexOutOfBoundsException {
        Circuit c = circuitAt(circuit);
        int count = 0;
        for (int wire = 0; wire < c.wireCount(); wire++) {
            for (int value = 0; value < 2; value++) {
                if (bench.tellers(c, wire, value) == 0) {
                    count++;
                }
            }
        }
        return count;
    }

    public String tests(int circuit) throws IndexOutOfBoundsException {
        int chosen = chooseTests(circuitAt(circuit));
        StringBuilder text = newText();
        for (int input = 0; input < inputCount(); input++) {
            if (Tables.has(chosen, input)) {
                if (text.length() > 0) {
                    text.append(' ');
                }
                text.append(input);
            }
        }
        return text.toString();
    }

    public int kinds(int circuit) throws IndexOutOfBoundsException {
        Circuit c = circuitAt(circuit);
        return Tables.kindsOf(bench.outputTable(c), now.lines);
    }

    public boolean makesAll(int set) throws IllegalArgumentException {
        if (set < 0 || set >= 1 << GATE_KINDS) {
            throw new IllegalArgumentException("a set of gates is 0 to 63");
        }
        int shared = 31;
        for (int kind = 0; kind < GATE_KINDS; kind++) {
            if (Tables.has(set, kind)) {
                shared &= Tables.kindsOfGate(kind);
            }
        }
        return shared == 0;
    }

    // ---- the square

    public int undo() throws IllegalStateException {
        if (history.count == 0) {
            throw new IllegalStateException("nothing can be undone");
        }
        history.bringBack(now);
        return history.count;
    }

    public int blank() {
        blanks++;
        return EMPTY_DRAWER;
    }

    public int knock() {
        knocks++;
        return knocks;
    }

    public int house(int what) throws IllegalArgumentException {
        switch (what) {
            case 0:
                return now.lines;
            case 1:
                return Integer.bitCount(now.ones);
            case 2:
                return Integer.bitCount(now.free);
            case 3:
                primeList.find(now);
                return primeList.count;
            case 4:
                return history.count;
            case 5:
                return blanks;
            case 6:
                return knocks;
            default:
                throw new IllegalArgumentException("no such thing of the square");
        }
    }

    public boolean isSound() {
        boolean isOneDiagram = diagram(0).equals(diagram(1));
        int table = bench.outputTable(now.zero);
        int calm = chooseCover(true);
        return (parts() == NONE) == isOneDiagram
                && isCoverSound(chooseCover(false))
                && isCoverSound(calm)
                && primeList.racesOf(calm) == 0
                && areTestsSound(chooseTests(now.zero))
                && isSumSound(Tables.productsOf(now.ones, now.lines))
                && isBestOrderSound(table, findBestOrder(table));
    }

    public long digest() {
        long d = 8509;
        for (int what = 0; what < 7; what++) {
            d = d * 31 + house(what);
        }
        d = digestCircuit(d, 0);
        d = digestCircuit(d, 1);
        d = digestText(d, wanted());
        d = d * 31 + primes().length();
        d = d * 31 + needed().length();
        d = d * 31 + cover(false).length();
        d = d * 31 + cover(true).length();
        d = d * 31 + race().length();
        d = d * 31 + sum().length();
        d = d * 31 + parts();
        return d * 31 + (isSound() ? 1 : 0);
    }

    // ---- what the calls ask first

    private Circuit circuitAt(int circuit) {
        if (circuit < 0 || circuit > 1) {
            throw new IndexOutOfBoundsException("no such circuit");
        }
        return circuit == 0 ? now.zero : now.one;
    }

    private static void checkGate(Circuit c, int gate) {
        if (gate < 0 || gate >= c.gates) {
            throw new IndexOutOfBoundsException("no such gate");
        }
    }

    private static void checkWire(Circuit c, int wire) {
        if (wire < 0 || wire >= c.wireCount()) {
            throw new IndexOutOfBoundsException("no such wire");
        }
    }

    private void checkInput(int input) {
        if (input < 0 || input >= inputCount()) {
            throw new IndexOutOfBoundsException("no such input");
        }
    }

    private static void checkGateKind(int kind) {
        if (kind < 0 || kind >= GATE_KINDS) {
            throw new IllegalArgumentException("kinds are 0 to 5");
        }
    }

    private static void checkFault(Circuit c, int wire, int value) {
        checkWire(c, wire);
        if (value < 0 || value > 1) {
            throw new IllegalArgumentException("a wire has 0 or 1");
        }
    }

    private int inputCount() {
        return 1 << now.lines;
    }

    // ---- the wanted table, within

    private int wantAll(int ones) {
        history.save(now);
        now.ones = ones;
        now.free = 0;
        return Integer.bitCount(ones);
    }

    private boolean isKnownOne(int known, int input) {
        int highLines = Integer.bitCount(input);
        switch (known) {
            case 0:
                return (highLines & 1) == 1;
            case 1:
                return 2 * highLines > now.lines;
            case 2:
                return highLines == 0 || highLines == now.lines;
            default:
                return isFirstHalfAbove(input);
        }
    }

    private boolean isFirstHalfAbove(int input) {
        int half = now.lines / 2;
        int mask = (1 << half) - 1;
        return (input & mask) > (input >> half & mask);
    }

    /** The told cover as a set of numbers of primes. */
    private int chooseCover(boolean isCalm) {
        primeList.find(now);
        choice.begin(primeList.demandOn(now.ones, isCalm));
        for (int prime = 0; prime < primeList.count; prime++) {
            choice.offer(primeList.demandOn(primeList.inputsAt(prime), isCalm), primeList.signsAt(prime));
        }
        return choice.choose();
    }

    private String primeText(int chosen) {
        StringBuilder text = newText();
        primeList.writeTo(text, chosen);
        return text.toString();
    }

    private static void addProduct(StringBuilder text, int set) {
        if (set == 0) {
            text.append('1');
        }
        for (int line = 0; line < MOST_LINES; line++) {
            if (Tables.has(set, line)) {
                text.append(letter(line));
            }
        }
    }

    /** A sign for each input: "-" where it is free, otherwise "1" or "0". */
    private String tableText(int ones, int free) {
        StringBuilder text = newText();
        for (int input = 0; input < inputCount(); input++) {
            if (Tables.has(free, input)) {
                text.append('-');
            } else {
                text.append(Tables.has(ones, input) ? '1' : '0');
            }
        }
        return text.toString();
    }

    private StringBuilder newText() {
        pen.setLength(0);
        return pen;
    }

    private static char letter(int line) {
        return (char) ('a' + line);
    }

    // ---- orders and tests, within

    private int orderOf(int a, int b, int c, int d) {
        int order = 0;
        int seen = 0;
        for (int place = 0; place < now.lines; place++) {
            int line = place == 0 ? a : place == 1 ? b : place == 2 ? c : d;
            if (line < 0 || line >= now.lines || Tables.has(seen, line)) {
                return NONE;
            }
            seen |= 1 << line;
            order = Orders.longer(order, line);
        }
        return order;
    }

    private int findBestOrder(int table) {
        int best = now.order;
        int fewest = Drawing.MOST_NODES + 1;
        for (int order = 0; order < Orders.end(now.lines); order++) {
            if (Orders.isOrder(order, now.lines)) {
                drawing.draw(table, now.lines, order);
                if (drawing.count < fewest) {
                    fewest = drawing.count;
                    best = order;
                }
            }
        }
        return best;
    }

    /** The told tests as a set of inputs. */
    private int chooseTests(Circuit c) {
        choice.begin(0);
        for (int input = 0; input < inputCount(); input++) {
            choice.offer(0, 0); // what it meets comes fault by fault
        }
        int fault = 0;
        for (int wire = 0; wire < c.wireCount(); wire++) {
            for (int value = 0; value < 2; value++) {
                choice.demandOneOf(bench.tellers(c, wire, value), fault);
                fault++;
            }
        }
        return choice.choose();
    }

    // ---- whether all is sound

    private boolean isCoverSound(int chosen) {
        int inputs = primeList.inputsOf(chosen);
        int zeros = Tables.all(now.lines) & ~now.ones & ~now.free;
        return (now.ones & ~inputs) == 0 && (inputs & zeros) == 0;
    }

    private boolean areTestsSound(int chosen) {
        for (int wire = 0; wire < now.zero.wireCount(); wire++) {
            for (int value = 0; value < 2; value++) {
                int tellers = bench.tellers(now.zero, wire, value);
                if (tellers != 0 && (tellers & chosen) == 0) {
                    return false;
                }
            }
        }
        return true;
    }

    private boolean isSumSound(int products) {
        for (int input = 0; input < inputCount(); input++) {
            int count = 0;
            for (int set = 0; set <= input; set++) {
                if (Tables.has(products, set) && (set & input) == set) {
                    count++;
                }
            }
            if (((count & 1) == 1) != Tables.has(now.ones, input)) {
                return false;
            }
        }
        return true;
    }

    private boolean isBestOrderSound(int table, int best) {
        drawing.draw(table, now.lines, best);
        int fewest = drawing.count;
        for (int order = 0; order < Orders.end(now.lines); order++) {
            if (Orders.isOrder(order, now.lines)) {
                drawing.draw(table, now.lines, order);
                if (drawing.count < fewest) {
                    return false;
                }
            }
        }
        return true;
    }

    // ---- the checksum, within

    private long digestCircuit(long start, int circuit) {
        long d = start;
        for (int what = 0; what < 6; what++) {
            d = d * 31 + ofCircuit(circuit, what);
        }
        Circuit c = circuitAt(circuit);
        for (int gate = 0; gate < c.gates; gate++) {
            for (int what = 0; what < 6; what++) {
                d = d * 31 + ofGate(circuit, gate, what);
            }
        }
        d = digestText(d, table(circuit, c.outputWire));
        d = d * 31 + diagram(circuit).length();
        d = d * 31 + silent(circuit);
        return d * 31 + kinds(circuit);
    }

    private static long digestText(long start, String text) {
        long d = start;
        for (int k = 0; k < text.length(); k++) {
            d = d * 31 + text.charAt(k);
        }
        return d;
    }

    // ---- rows: no place outside of them is touched

    private static int at(int[] row, int place) {
        return place >= 0 && place < row.length ? row[place] : 0;
    }

    private static void put(int[] row, int place, int number) {
        if (place >= 0 && place < row.length) {
            row[place] = number;
        }
    }

    private static long longAt(long[] row, int place) {
        return place >= 0 && place < row.length ? row[place] : 0;
    }

    private static void putLong(long[] row, int place, long number) {
        if (place >= 0 && place < row.length) {
            row[place] = number;
        }
    }

    private static void copyRow(int[] from, int[] to) {
        for (int place = 0; place < from.length && place < to.length; place++) {
            to[place] = from[place];
        }
    }

    /** Functions of the lines as numbers: the bit of an input is what the function tells by it. */
    private static final class Tables {
        private static final int[] OF_LINES = {0xAAAA, 0xCCCC, 0xF0F0, 0xFF00};
        /** The products of one line at most: the sets 0, 1, 2, 4 and 8. */
        private static final int SHORT_PRODUCTS = 0x117;

        static boolean has(int set, int number) {
            return (set >> number & 1) == 1;
        }

        static int firstIn(int set) {
            for (int number = 0; number < MOST_INPUTS; number++) {
                if (has(set, number)) {
                    return number;
                }
            }
            return NONE;
        }

        static int all(int lines) {
            return (1 << (1 << lines)) - 1;
        }

        static int ofLine(int line, int lines) {
            return at(OF_LINES, line) & all(lines);
        }

        /** What the function is with the line 0, told for both digits of that line. */
        static int lowOf(int table, int line) {
            int part = table & ~at(OF_LINES, line);
            return part | part << (1 << line);
        }

        /** The same with the line 1. */
        static int highOf(int table, int line) {
            int part = table & at(OF_LINES, line);
            return part | part >> (1 << line);
        }

        static boolean hangsOn(int table, int line) {
            return lowOf(table, line) != highOf(table, line);
        }

        static int linesOf(int table, int lines) {
            int count = 0;
            for (int line = 0; line < lines; line++) {
                if (hangsOn(table, line)) {
                    count++;
                }
            }
            return count;
        }

        /** The sum of products, a bit for each set of lines; of itself it gives the table back. */
        static int productsOf(int table, int lines) {
            int products = table;
            for (int line = 0; line < lines; line++) {
                products ^= (products & ~at(OF_LINES, line)) << (1 << line);
            }
            return products & all(lines);
        }

        static int combine(int kind, int first, int second, int all) {
            switch (kind) {
                case NOT:
                    return ~first & all;
                case AND:
                    return first & second;
                case OR:
                    return first | second;
                case XOR:
                    return first ^ second;
                case NAND:
                    return ~(first & second) & all;
                case NOR:
                    return ~(first | second) & all;
                default:
                    return 0;
            }
        }

        static int kindsOf(int table, int lines) {
            int last = (1 << lines) - 1;
            int kinds = has(table, 0) ? 0 : 1;
            if (has(table, last)) {
                kinds |= 2;
            }
            if (isRising(table, lines)) {
                kinds |= 4;
            }
            if (isTurned(table, last)) {
                kinds |= 8;
            }
            if ((productsOf(table, lines) & ~SHORT_PRODUCTS) == 0) {
                kinds |= 16;
            }
            if (isEvenHanded(table, last)) {
                kinds |= 32;
            }
            return kinds;
        }

        static int kindsOfGate(int kind) {
            int lines = kind == NOT ? 1 : 2;
            int first = ofLine(0, lines);
            int second = ofLine(1, lines);
            return kindsOf(combine(kind, first, second, all(lines)), lines);
        }

        private static boolean isRising(int table, int lines) {
            for (int line = 0; line < lines; line++) {
                if ((lowOf(table, line) & ~highOf(table, line)) != 0) {
                    return false;
                }
            }
            return true;
        }

        private static boolean isTurned(int table, int last) {
            for (int input = 0; input <= last; input++) {
                if (has(table, input) == has(table, last - input)) {
                    return false;
                }
            }
            return true;
        }

        /** Exchanging lines leads from an input to just those with as many digits 1. */
        private static boolean isEvenHanded(int table, int last) {
            int countsWithOne = 0;
            int countsWithZero = 0;
            for (int input = 0; input <= last; input++) {
                int bit = 1 << Integer.bitCount(input);
                if (has(table, input)) {
                    countsWithOne |= bit;
                } else {
                    countsWithZero |= bit;
                }
            }
            return (countsWithOne & countsWithZero) == 0;
        }
    }

    /** Orders as numbers with four digits: the first line at the highest, so they rise by their letters. */
    private static final class Orders {
        static int end(int lines) {
            return 1 << 2 * lines;
        }

        static int longer(int order, int line) {
            return order << 2 | line;
        }

        static int lineAt(int order, int place, int lines) {
            return order >> 2 * (lines - 1 - place) & 3;
        }

        static int usual(int lines) {
            int order = 0;
            for (int line = 0; line < lines; line++) {
                order = longer(order, line);
            }
            return order;
        }

        static boolean isOrder(int order, int lines) {
            int seen = 0;
            for (int place = 0; place < lines; place++) {
                seen |= 1 << lineAt(order, place, lines);
            }
            return seen == (1 << lines) - 1;
        }
    }

    /** The gates of one circuit; the wire of the gate g is lines + g. */
    private static final class Circuit {
        private final int[] gateKinds = new int[MOST_GATES];
        private final int[] firsts = new int[MOST_GATES];
        private final int[] seconds = new int[MOST_GATES];
        private int lines;
        private int gates;
        private int outputWire;

        void reset(int lineCount) {
            lines = lineCount;
            gates = 0;
            outputWire = 0;
        }

        void copyFrom(Circuit other) {
            copyRow(other.gateKinds, gateKinds);
            copyRow(other.firsts, firsts);
            copyRow(other.seconds, seconds);
            lines = other.lines;
            gates = other.gates;
            outputWire = other.outputWire;
        }

        int wireCount() {
            return lines + gates;
        }

        int wireOf(int gate) {
            return lines + gate;
        }

        int kindOf(int gate) {
            return at(gateKinds, gate);
        }

        int firstOf(int gate) {
            return at(firsts, gate);
        }

        int secondOf(int gate) {
            return at(seconds, gate);
        }

        int add(int kind, int first, int second) {
            put(gateKinds, gates, kind);
            put(firsts, gates, first);
            put(seconds, gates, kind == NOT ? NONE : second);
            gates++;
            return wireOf(gates - 1);
        }

        void look(int gate, int side, int wire) {
            put(side == 0 ? firsts : seconds, gate, wire);
        }

        void setKind(int gate, int kind) {
            put(gateKinds, gate, kind);
        }

        /** The set of the wires at which a gate looks. */
        int looksAt(int gate) {
            int wires = 1 << at(firsts, gate);
            int second = at(seconds, gate);
            return second == NONE ? wires : wires | 1 << second;
        }

        int lookersAt(int wire) {
            int count = 0;
            for (int gate = 0; gate < gates; gate++) {
                if (Tables.has(looksAt(gate), wire)) {
                    count++;
                }
            }
            return count;
        }

        int gatesIn(int wires) {
            return wires >> lines;
        }

        /** The set of all wires at which the gates among these look. */
        private int stepFrom(int wires) {
            int found = 0;
            for (int gate = 0; gate < gates; gate++) {
                if (Tables.has(wires, wireOf(gate))) {
                    found |= looksAt(gate);
                }
            }
            return found;
        }

        /** The set of a wire and all at which it looks, by others too. */
        int under(int wire) {
            int found = 1 << wire;
            for (int step = 0; step < gates; step++) {
                found |= stepFrom(found);
            }
            return found;
        }

        /** Without rings the steps down lead to lines alone just after the longest way. */
        int levelOf(int wire) {
            int wires = 1 << wire;
            int level = 0;
            while (level < MOST_GATES && gatesIn(wires) != 0) {
                wires = stepFrom(wires);
                level++;
            }
            return level;
        }
    }

    /** Here a circuit is run by all inputs at once, with a wire that is stuck or without. */
    private static final class Bench {
        private final int[] tables = new int[MOST_WIRES];

        int wireTable(Circuit c, int wire) {
            run(c, NONE, 0);
            return at(tables, wire);
        }

        int outputTable(Circuit c) {
            run(c, NONE, 0);
            return at(tables, c.outputWire);
        }

        /** The set of the inputs that tell a fault. */
        int tellers(Circuit c, int stuckWire, int stuckValue) {
            run(c, NONE, 0);
            int right = at(tables, c.outputWire);
            run(c, stuckWire, stuckValue == 1 ? Tables.all(c.lines) : 0);
            return right ^ at(tables, c.outputWire);
        }

        private void run(Circuit c, int stuckWire, int stuckTable) {
            int all = Tables.all(c.lines);
            for (int wire = 0; wire < tables.length; wire++) {
                tables[wire] = wire == stuckWire ? stuckTable : wire < c.lines ? Tables.ofLine(wire, c.lines) : 0;
            }
            // a gate may look at one that came later: so there are rounds, until nothing changes
            boolean isSettled = false;
            for (int round = 0; round < c.gates && !isSettled; round++) {
                isSettled = true;
                for (int gate = 0; gate < c.gates; gate++) {
                    int wire = c.wireOf(gate);
                    int first = at(tables, c.firstOf(gate));
                    int second = at(tables, c.secondOf(gate));
                    int table = Tables.combine(c.kindOf(gate), first, second, all);
                    if (wire != stuckWire && table != at(tables, wire)) {
                        put(tables, wire, table);
                        isSettled = false;
                    }
                }
            }
        }
    }

    /** All that undo() brings back. */
    private static final class State {
        private final Circuit zero = new Circuit();
        private final Circuit one = new Circuit();
        private int lines;
        /** The inputs at which wanted is 1. */
        private int ones;
        /** The inputs of no meaning. */
        private int free;
        private int order;

        void reset(int lineCount) {
            zero.reset(lineCount);
            one.reset(lineCount);
            lines = lineCount;
            ones = 0;
            free = 0;
            order = Orders.usual(lineCount);
        }

        void copyFrom(State other) {
            zero.copyFrom(other.zero);
            one.copyFrom(other.one);
            lines = other.lines;
            ones = other.ones;
            free = other.free;
            order = other.order;
        }

        int wantedAt(int input) {
            return Tables.has(free, input) ? 2 : Tables.has(ones, input) ? 1 : 0;
        }

        void setWanted(int input, int number) {
            int bit = 1 << input;
            ones = number == 1 ? ones | bit : ones & ~bit;
            free = number == 2 ? free | bit : free & ~bit;
        }
    }

    /** The states before the last calls, in a row that goes round. */
    private static final class History {
        private final State[] past = new State[MOST_UNDO];
        private int next;
        private int count;

        History() {
            for (int place = 0; place < past.length; place++) {
                past[place] = new State();
            }
        }

        void forget() {
            count = 0;
        }

        void save(State now) {
            State place = stateAt(next);
            if (place != null) {
                place.copyFrom(now);
            }
            next = (next + 1) % MOST_UNDO;
            count = Math.min(count + 1, MOST_UNDO);
        }

        void bringBack(State now) {
            next = (next + MOST_UNDO - 1) % MOST_UNDO;
            count--;
            State place = stateAt(next);
            if (place != null) {
                now.copyFrom(place);
            }
        }

        private State stateAt(int place) {
            return place >= 0 && place < past.length ? past[place] : null;
        }
    }

    /** The primes of a wanted table, as they stand; sets of primes are sets of their numbers here. */
    private static final class PrimeList {
        /** Four lines have no more than 13 primes. */
        private static final int MOST_PRIMES = 16;
        private final int[] inputSets = new int[MOST_PRIMES];
        private final int[] cubes = new int[MOST_PRIMES];
        private int count;
        private int lines;
        private int ones;
        private int let;

        void find(State now) {
            lines = now.lines;
            ones = now.ones;
            let = now.ones | now.free;
            count = 0;
            for (int cube = 0; cube < 1 << 2 * lines; cube++) {
                int inputs = isCube(cube) ? inputsOfCube(cube) : 0;
                if ((inputs & ones) != 0 && isLet(inputs) && !canGrow(cube, inputs) && count < MOST_PRIMES) {
                    put(inputSets, count, inputs);
                    put(cubes, count, cube);
                    count++;
                }
            }
        }

        int inputsAt(int prime) {
            return at(inputSets, prime);
        }

        int signsAt(int prime) {
            int signs = 0;
            for (int line = 0; line < lines; line++) {
                if (signAt(at(cubes, prime), line) != 0) {
                    signs++;
                }
            }
            return signs;
        }

        int everyOne() {
            return (1 << count) - 1;
        }

        int neededOnes() {
            int seen = 0;
            int seenTwice = 0;
            for (int prime = 0; prime < count; prime++) {
                seenTwice |= seen & inputsAt(prime);
                seen |= inputsAt(prime);
            }
            int seenOnce = ones & seen & ~seenTwice;
            int chosen = 0;
            for (int prime = 0; prime < count; prime++) {
                if ((inputsAt(prime) & seenOnce) != 0) {
                    chosen |= 1 << prime;
                }
            }
            return chosen;
        }

        int inputsOf(int chosen) {
            int inputs = 0;
            for (int prime = 0; prime < count; prime++) {
                if (Tables.has(chosen, prime)) {
                    inputs |= inputsAt(prime);
                }
            }
            return inputs;
        }

        int signsOf(int chosen) {
            int signs = 0;
            for (int prime = 0; prime < count; prime++) {
                if (Tables.has(chosen, prime)) {
                    signs += signsAt(prime);
                }
            }
            return signs;
        }

        void writeTo(StringBuilder text, int chosen) {
            for (int prime = 0; prime < count; prime++) {
                if (Tables.has(chosen, prime)) {
                    if (text.length() > 0) {
                        text.append(' ');
                    }
                    addCube(text, at(cubes, prime));
                }
            }
        }

        /** The pairs of neighbours that are 1 and in no chosen prime together, by pairBit(). */
        long racesOf(int chosen) {
            long races = pairsIn(ones);
            for (int prime = 0; prime < count; prime++) {
                if (Tables.has(chosen, prime)) {
                    races &= ~pairsIn(inputsAt(prime));
                }
            }
            return races;
        }

        /** What a cover must have of these inputs: those that are 1, and for a calm one their pairs. */
        long demandOn(int inputs, boolean isCalm) {
            int wantedInputs = inputs & ones;
            return isCalm ? wantedInputs | pairsIn(wantedInputs) : wantedInputs;
        }

        /** The bit of an input and its greater neighbour by a line; the bits of single inputs stand before. */
        static long pairBit(int low, int line) {
            int withoutLine = (low >> (line + 1)) << line | low & ((1 << line) - 1);
            return 1L << (MOST_INPUTS + 8 * line + withoutLine);
        }

        private long pairsIn(int inputs) {
            long pairs = 0;
            for (int low = 0; low < 1 << lines; low++) {
                for (int line = 0; line < lines; line++) {
                    int high = low | 1 << line;
                    if (high != low && Tables.has(inputs, low) && Tables.has(inputs, high)) {
                        pairs |= pairBit(low, line);
                    }
                }
            }
            return pairs;
        }

        /** The sign of a line in a cube: 0 "-", 1 "0", 2 "1"; that of the line 0 is highest, as in the text. */
        private int signAt(int cube, int line) {
            return cube >> 2 * (lines - 1 - line) & 3;
        }

        private boolean isCube(int cube) {
            for (int line = 0; line < lines; line++) {
                if (signAt(cube, line) == 3) {
                    return false;
                }
            }
            return true;
        }

        private int inputsOfCube(int cube) {
            int inputs = Tables.all(lines);
            for (int line = 0; line < lines; line++) {
                int sign = signAt(cube, line);
                if (sign == 1) {
                    inputs &= ~Tables.ofLine(line, lines);
                } else if (sign == 2) {
                    inputs &= Tables.ofLine(line, lines);
                }
            }
            return inputs;
        }

        private boolean isLet(int inputs) {
            return (inputs & ~let) == 0;
        }

        /** A greater cube that is let holds one that is greater by a single line. */
        private boolean canGrow(int cube, int inputs) {
            for (int line = 0; line < lines; line++) {
                int sign = signAt(cube, line);
                int grown = sign == 1 ? Tables.lowOf(inputs, line) : Tables.highOf(inputs, line);
                if (sign != 0 && isLet(grown)) {
                    return true;
                }
            }
            return false;
        }

        private void addCube(StringBuilder text, int cube) {
            for (int line = 0; line < lines; line++) {
                int sign = signAt(cube, line);
                text.append(sign == 0 ? '-' : sign == 1 ? '0' : '1');
            }
        }
    }

    /** The fewest offers that meet a demand together; of these the cheapest, of these the first. */
    private static final class Choice {
        private final long[] meets = new long[MOST_INPUTS];
        private final int[] costs = new int[MOST_INPUTS];
        private int count;
        private long demand;
        private int best;
        private int bestSize;
        private int bestCost;

        void begin(long demanded) {
            demand = demanded;
            count = 0;
        }

        void offer(long met, int cost) {
            if (count < meets.length) {
                putLong(meets, count, met);
                put(costs, count, cost);
                count++;
            }
        }

        /** Demands some offer of a set; of none there is nothing to demand. */
        void demandOneOf(int offers, int bit) {
            if (offers != 0) {
                demand |= 1L << bit;
            }
            for (int offer = 0; offer < count; offer++) {
                if (Tables.has(offers, offer)) {
                    putLong(meets, offer, longAt(meets, offer) | 1L << bit);
                }
            }
        }

        int choose() {
            best = 0;
            bestSize = count + 1;
            bestCost = 0;
            search(0, 0, 0, 0);
            return best;
        }

        /** Tries an offer ahead of leaving it: so of equals the first one comes first, and stays. */
        private void search(int offer, int chosen, long met, int cost) {
            int size = Integer.bitCount(chosen);
            if ((demand & ~met) == 0) {
                keepBetter(chosen, size, cost);
                return;
            }
            if (offer < 0 || offer >= count || size >= bestSize) {
                return;
            }
            long more = longAt(meets, offer) & demand & ~met;
            if (more != 0) {
                search(offer + 1, chosen | 1 << offer, met | more, cost + at(costs, offer));
            }
            search(offer + 1, chosen, met, cost);
        }

        private void keepBetter(int chosen, int size, int cost) {
            if (size < bestSize || size == bestSize && cost < bestCost) {
                best = chosen;
                bestSize = size;
                bestCost = cost;
            }
        }
    }

    /** The diagram of one function by one order. */
    private static final class Drawing {
        /** With four lines: 1, 2 and 4 nodes for the first three of the order, and 2 for the last. */
        private static final int MOST_NODES = 9;
        private static final int FIRST_NODE = 2;
        private final int[] tables = new int[MOST_NODES];
        private final int[] nodeLines = new int[MOST_NODES];
        private final int[] lows = new int[MOST_NODES];
        private final int[] highs = new int[MOST_NODES];
        private int count;
        private int lines;
        private int order;
        private int root;

        void draw(int table, int lineCount, int byOrder) {
            lines = lineCount;
            order = byOrder;
            count = 0;
            root = nodeOf(table, 0);
        }

        void writeTo(StringBuilder text) {
            if (count == 0) {
                text.append(root);
            }
            for (int node = 0; node < count; node++) {
                if (node > 0) {
                    text.append(';');
                }
                text.append(letter(at(nodeLines, node))).append(at(lows, node));
                text.append(' ').append(at(highs, node));
            }
        }

        /** The number of the node or end of a function that hangs on no line ahead of a place. */
        private int nodeOf(int table, int place) {
            if (table == 0 || place > lines) {
                return 0;
            }
            if (table == Tables.all(lines)) {
                return 1;
            }
            for (int node = 0; node < count; node++) {
                if (at(tables, node) == table) {
                    return FIRST_NODE + node;
                }
            }
            for (int next = place; next < lines; next++) {
                int line = Orders.lineAt(order, next, lines);
                int low = Tables.lowOf(table, line);
                int high = Tables.highOf(table, line);
                if (low != high) {
                    int lowNode = nodeOf(low, next + 1);
                    int highNode = nodeOf(high, next + 1);
                    return add(table, line, lowNode, highNode);
                }
            }
            return 0;
        }

        private int add(int table, int line, int low, int high) {
            put(tables, count, table);
            put(nodeLines, count, line);
            put(lows, count, low);
            put(highs, count, high);
            count = Math.min(count + 1, MOST_NODES);
            return FIRST_NODE + count - 1;
        }
    }
}
