import java.math.BigInteger;
import java.util.List;
import java.util.function.Consumer;
import java.util.function.Supplier;

/** The sentences on the square as a whole: the promises 35 to 40, and an object's whole use of 512 calls. */
final class SquareEdges {
    private static final Supplier<Gatesquare> USUAL = Squares::usual;
    private static final Supplier<Gatesquare> FULL = Squares::full;
    private static final Supplier<Gatesquare> FRESH = Squares::fresh;
    private static final BigInteger TWO_TO_64 = BigInteger.ONE.shiftLeft(64);

    /** Calls for a usual square, of each name that can be undone. */
    private static final List<Consumer<Gatesquare>> CHANGES = List.of(
            x -> x.gate(0, 1, 0, 1), x -> x.gate(1, 0, 4, -1), x -> x.ungate(0), x -> x.rewire(0, 0, 1, 2),
            x -> x.rewire(0, 3, 0, 5), x -> x.rewire(1, 0, 0, 2), x -> x.alter(0, 2, 4), x -> x.alter(1, 1, 1),
            x -> x.output(0, 6), x -> x.output(1, 0), x -> x.want(0, 2), x -> x.want(7, 0), x -> x.wantTable(1),
            x -> x.wantKnown(1), x -> x.order(2, 0, 1, 0));
    /** Calls that leave a usual square as it is, and are not refused. */
    private static final List<Consumer<Gatesquare>> CHANGES_OF_NOTHING = List.of(
            x -> x.rewire(0, 0, 0, 0), x -> x.rewire(0, 1, 0, 2), x -> x.alter(0, 0, 1), x -> x.alter(0, 1, 0),
            x -> x.output(0, 5), x -> x.output(1, 4), x -> x.want(4, 2), x -> x.want(0, 1), x -> x.order(1, 2, 0, 0));
    /** Calls that are no changes. */
    private static final List<Consumer<Gatesquare>> QUESTIONS = List.of(
            x -> x.value(0, 5, 0), x -> x.table(0, 5), x -> x.ofGate(0, 0, 3), x -> x.ofCircuit(0, 5),
            Gatesquare::wanted, Gatesquare::primes, Gatesquare::needed, x -> x.cover(false), x -> x.cover(true),
            x -> x.ofCover(true, 3), Gatesquare::race, Gatesquare::sum, x -> x.diagram(0), x -> x.nodes(1),
            x -> x.bestOrder(0), x -> x.input(0, 4), Gatesquare::isAlike, Gatesquare::parts, x -> x.tells(0, 0, 0),
            x -> x.test(0, 0, 0), x -> x.silent(0), x -> x.tests(0), x -> x.kinds(0), x -> x.makesAll(16),
            x -> x.house(3), Gatesquare::isSound, Gatesquare::digest);
    /** Calls that are refused, on a square of three lines without gates. */
    private static final List<Consumer<Gatesquare>> REFUSALS = List.of(
            x -> x.lines(0), x -> x.lines(5), x -> x.gate(0, 6, 0, 0), x -> x.gate(0, 1, 0, 3), x -> x.ungate(0),
            x -> x.rewire(0, 0, 0, 0), x -> x.alter(0, 0, 1), x -> x.output(0, 3), x -> x.value(0, 0, 8),
            x -> x.table(1, 3), x -> x.ofGate(0, 0, 0), x -> x.ofCircuit(0, 6), x -> x.want(8, 0), x -> x.want(0, 3),
            x -> x.wantTable(2), x -> x.wantKnown(4), x -> x.ofCover(true, 4), x -> x.order(0, 1, 1, 0),
            x -> x.diagram(2), x -> x.nodes(2), x -> x.bestOrder(2), x -> x.input(0, 4), x -> x.tells(0, 3, 0),
            x -> x.tells(0, 0, 2), x -> x.test(0, 1, 0), x -> x.silent(2), x -> x.tests(2), x -> x.kinds(2),
            x -> x.makesAll(64), x -> x.house(7));

    private static final List<Consumer<Gatesquare>> CHANGES_FOR_DIGEST = List.of(
            Gatesquare::isSound, Gatesquare::blank, x -> x.want(0, 2), x -> x.output(0, 0), x -> x.wantTable(0));

    private SquareEdges() {
    }

    static void run() {
        Check.each(
                SquareEdges::nothingToUndo, SquareEdges::eachChangeIsUndone, SquareEdges::changesOfNothingAreUndone,
                SquareEdges::questionsAreNotUndone, SquareEdges::refusalsAreNotUndone,
                SquareEdges::undoForgetsTheNinth, SquareEdges::theNinthOfEachName, SquareEdges::undoAndOn,
                SquareEdges::linesAreNotUndone, SquareEdges::blanksAndKnocksAreNotUndone, SquareEdges::blanks,
                SquareEdges::knocks, SquareEdges::houseNeedsItsNumber, SquareEdges::houseEmptyAndFull,
                SquareEdges::questionsChangeNothing, SquareEdges::soundEverywhere,
                SquareEdges::digestsOfFreshSquares, SquareEdges::digestsWrapAround, SquareEdges::wholeUseOfDigests,
                SquareEdges::wholeUseOfChanges);
    }

    /** A square with just so many calls that can be undone, which are want(0, ..). */
    private static Gatesquare withUndoable(int count) {
        Gatesquare x = Squares.fresh();
        for (int k = 0; k < count; k++) {
            x.want(k % 8, 1);
        }
        return x;
    }

    private static void nothingToUndo() {
        Check.sentence(35, "if none can be undone");
        Check.refused(Check.STATE, FRESH, Gatesquare::undo);
        for (int n = 1; n <= 4; n++) {
            Gatesquare x = Squares.ofLines(n);
            String before = Check.picture(x);
            Check.due(Check.thrown(x, Gatesquare::undo), Check.STATE);
            Check.due(Check.thrown(x, Gatesquare::undo), Check.STATE);
            Check.due(Check.picture(x), before);
            x.want(0, 1);
            Check.due(x.undo(), 0);
            Check.due(Check.picture(x), before);
            Check.due(Check.thrown(x, Gatesquare::undo), Check.STATE);
            Check.due(Check.picture(x), before);
            Check.due(x.house(4), 0);
        }
    }

    /** The usual square with three calls that can be undone. */
    private static Gatesquare usualWithThree() {
        Gatesquare x = Squares.usual();
        for (int k = 0; k < 5; k++) {
            x.want(3, 2);
        }
        for (int k = 0; k < 5; k++) {
            x.undo();
        }
        return x;
    }

    private static void dueUndone(Consumer<Gatesquare> change) {
        Gatesquare x = usualWithThree();
        change.accept(x);
        Check.due(x.house(4), 4);
        Check.due(x.undo(), 3);
        Check.dueAlikeToTheEnd(x, usualWithThree());
    }

    private static void eachChangeIsUndone() {
        Check.sentence(35, "The last of the calls gate(), ungate(), rewire(), alter(), output(), want(), wantTable(), wantKnown(), order() that was not refused is undone.");
        String usual = withoutUndoable(usualWithThree());
        for (Consumer<Gatesquare> change : CHANGES) {
            Gatesquare x = usualWithThree();
            change.accept(x);
            Check.due(withoutUndoable(x).equals(usual), false);
            dueUndone(change);
        }
    }

    /** What can be told of a square, but for what can be undone. */
    private static String withoutUndoable(Gatesquare x) {
        StringBuilder told = new StringBuilder(x.wanted() + " " + x.diagram(0) + " " + x.diagram(1));
        for (int circuit = 0; circuit < 2; circuit++) {
            told.append(' ').append(x.ofCircuit(circuit, 3));
            for (int gate = 0; gate < x.ofCircuit(circuit, 0); gate++) {
                for (int what = 0; what < 3; what++) {
                    told.append(' ').append(x.ofGate(circuit, gate, what));
                }
            }
        }
        return told.toString();
    }

    private static void changesOfNothingAreUndone() {
        Check.sentence(35, "The last of the calls gate(), ungate(), rewire(), alter(), output(), want(), wantTable(), wantKnown(), order() that was not refused is undone.");
        // what was not refused is undone, whether it changed something or not
        String usual = withoutUndoable(usualWithThree());
        for (Consumer<Gatesquare> change : CHANGES_OF_NOTHING) {
            Gatesquare x = usualWithThree();
            change.accept(x);
            Check.due(withoutUndoable(x), usual);
            dueUndone(change);
        }
        Gatesquare x = Squares.ofLines(2);
        x.wantTable(0);
        x.wantTable(0);
        x.wantKnown(1);
        x.wantKnown(1);
        Check.due(x.house(4), 4);
        Check.due(x.undo(), 3);
        Check.due(x.wanted(), "0001");
        Check.due(x.undo(), 2);
        Check.due(x.wanted(), "0101");
        Check.due(x.undo(), 1);
        Check.due(x.wanted(), "0101");
        Check.due(x.undo(), 0);
        Check.due(x.wanted(), "0000");
    }

    private static void questionsAreNotUndone() {
        Check.sentence(35, "The last of the calls gate(), ungate(), rewire(), alter(), output(), want(), wantTable(), wantKnown(), order() that was not refused is undone.");
        for (Consumer<Gatesquare> question : QUESTIONS) {
            Gatesquare x = usualWithThree();
            question.accept(x);
            Check.due(x.house(4), 3);
            Check.dueAlikeToTheEnd(x, usualWithThree());
        }
    }

    private static void refusalsAreNotUndone() {
        Check.sentence(Check.DESCRIPTION, "A method that throws an exception changes nothing.");
        for (int count : new int[] {0, 1, 7, 8}) {
            for (Consumer<Gatesquare> refusal : REFUSALS) {
                Gatesquare x = withUndoable(count);
                Check.due(Check.thrown(x, refusal) != Void.class, true);
                Check.due(x.house(4), count);
                Check.dueAlikeToTheEnd(x, withUndoable(count));
                Check.due(Check.thrown(x, Gatesquare::undo), Check.STATE);
            }
        }
    }

    private static void undoForgetsTheNinth() {
        Check.sentence(35, "The last 8 can be undone.");
        Check.sentence(35, "Returns how many can be undone then.");
        for (int calls = 0; calls <= 20; calls++) {
            Gatesquare x = Squares.ofLines(4);
            StringBuilder wanted = new StringBuilder("0000000000000000");
            for (int k = 0; k < calls; k++) {
                x.want(k % 16, k < 16 ? 1 : 2);
                Check.due(x.house(4), Math.min(8, k + 1));
            }
            for (int k = 0; k < calls - 8; k++) {
                wanted.setCharAt(k % 16, k < 16 ? '1' : '-');
            }
            for (int left = Math.min(8, calls) - 1; left >= 0; left--) {
                Check.due(x.undo(), left);
                Check.due(x.house(4), left);
            }
            Check.due(x.wanted(), wanted.toString());
            Check.due(Check.thrown(x, Gatesquare::undo), Check.STATE);
            Check.due(x.wanted(), wanted.toString());
        }
    }

    private static void theNinthOfEachName() {
        Check.sentence(35, "The last 8 can be undone.");
        // nine changes: whichever is the first of them stays
        for (int first = 0; first < CHANGES.size(); first++) {
            Gatesquare x = Squares.usual();
            Gatesquare onlyFirst = Squares.usual();
            CHANGES.get(first).accept(x);
            CHANGES.get(first).accept(onlyFirst);
            String due = withoutUndoable(onlyFirst);
            for (int k = 0; k < 8; k++) {
                x.wantKnown(k % 4);
                Check.due(x.house(4), 8);
            }
            for (int left = 7; left >= 0; left--) {
                Check.due(x.undo(), left);
            }
            Check.due(withoutUndoable(x), due);
            Check.due(Check.thrown(x, Gatesquare::undo), Check.STATE);
        }
        // and whichever is the ninth is the first to be undone
        for (Consumer<Gatesquare> ninth : CHANGES) {
            Gatesquare x = Squares.usual();
            String due = withoutUndoable(x);
            ninth.accept(x);
            Check.due(x.house(4), 8);
            Check.due(x.undo(), 7);
            Check.due(withoutUndoable(x), due);
        }
    }

    private static void undoAndOn() {
        Check.sentence(35, "Returns how many can be undone then.");
        // what was undone is gone: it is the calls before that are undone next
        Gatesquare x = Squares.ofLines(4);
        for (int k = 0; k < 11; k++) {
            x.want(k, 1);
        }
        for (int k = 0; k < 40; k++) {
            Check.due(x.undo(), 7);
            Check.due(x.undo(), 6);
            Check.due(x.wanted(), "1111111110000000");
            x.want(9, 1);
            Check.due(x.house(4), 7);
            x.want(10, 1);
            Check.due(x.house(4), 8);
        }
        for (int left = 7; left >= 0; left--) {
            Check.due(x.undo(), left);
        }
        Check.due(x.wanted(), "1110000000000000");
        Check.due(Check.thrown(x, Gatesquare::undo), Check.STATE);
        x.gate(0, 1, 0, 1);
        Check.due(x.house(4), 1);
        Check.due(x.undo(), 0);
        Check.due(x.ofCircuit(0, 0), 0);
        // a gate undone at 12 leaves room for another
        Gatesquare full = Squares.full();
        full.output(0, 0);
        full.ungate(0);
        full.gate(0, 5, 1, 2);
        Check.due(Check.thrown(full, y -> y.gate(0, 5, 1, 2)), Check.STATE);
        full.undo();
        Check.due(full.ofCircuit(0, 0), 11);
        Check.due(full.gate(0, 3, 0, 14), 15);
        full.undo();
        full.undo();
        Check.dueEach(what -> full.ofGate(0, 11, what), "0 14 -1 12 0 0");
        full.undo();
        Check.due(full.ofCircuit(0, 3), 15);
    }

    private static void linesAreNotUndone() {
        Check.sentence(2, "All goes (CIRCUITS, WANTED, ORDER, what can be undone; not what is counted): there are so many LINES.");
        for (int count : new int[] {0, 1, 8, 9}) {
            Gatesquare x = withUndoable(count);
            x.lines(3);
            Check.due(x.house(4), 0);
            Check.due(Check.thrown(x, Gatesquare::undo), Check.STATE);
            x.want(1, 2);
            Check.due(x.undo(), 0);
            Check.due(x.wanted(), "00000000");
            Check.due(Check.thrown(x, Gatesquare::undo), Check.STATE);
        }
    }

    private static void blanksAndKnocksAreNotUndone() {
        Check.sentence(35, "The last of the calls gate(), ungate(), rewire(), alter(), output(), want(), wantTable(), wantKnown(), order() that was not refused is undone.");
        Gatesquare x = Squares.fresh();
        x.want(0, 1);
        x.blank();
        x.knock();
        x.knock();
        Check.due(x.house(4), 1);
        Check.due(x.undo(), 0);
        Check.dueEach(x::house, "3 0 0 0 0 1 2");
        Check.due(Check.thrown(x, Gatesquare::undo), Check.STATE);
        Check.dueEach(x::house, "3 0 0 0 0 1 2");
        Check.due(x.knock(), 3);
    }

    private static void blanks() {
        Check.sentence(36, "Draws a gate out of an empty drawer: it is counted.");
        Gatesquare x = Squares.full();
        for (int count = 1; count <= 300; count++) {
            Check.due(x.blank(), -9);
        }
        Check.due(x.house(5), 300);
        Check.due(x.house(6), 0);
        Check.due(x.ofCircuit(0, 0), 12);
    }

    private static void knocks() {
        Check.sentence(37, "Returns how often ever, with this.");
        Gatesquare x = Squares.fresh();
        for (int count = 1; count <= 300; count++) {
            Check.due(x.knock(), count);
        }
        x.lines(1);
        Check.due(x.knock(), 301);
        Check.due(x.house(6), 301);
        Check.due(x.house(5), 0);
        Check.due(Squares.fresh().knock(), 1);
    }

    private static void houseNeedsItsNumber() {
        Check.sentence(38, "if what is not 0 to 6");
        for (int what : Check.outside(0, 6)) {
            Check.refused(Check.ARGUMENT, USUAL, x -> x.house(what));
            Check.refused(Check.ARGUMENT, FULL, x -> x.house(what));
        }
    }

    private static void houseEmptyAndFull() {
        Check.sentence(38, "0 LINES, 1 INPUTS of WANTED that are 1, 2 those of no meaning, 3 PRIMES, 4 how many can be undone, 5 how often -9 was told by blank(), 6 how often it was knocked");
        for (int n = 1; n <= 4; n++) {
            int all = 1 << n;
            Gatesquare none = Squares.ofLines(n);
            Check.dueEach(none::house, n + " 0 0 0 0 0 0");
            Gatesquare ones = Squares.wanting("1".repeat(all));
            Check.dueEach(ones::house, n + " " + all + " 0 1 " + Math.min(8, all) + " 0 0");
            Gatesquare free = Squares.wanting("-".repeat(all));
            Check.dueEach(free::house, n + " 0 " + all + " 0 " + Math.min(8, all) + " 0 0");
        }
        Gatesquare usual = Squares.usual();
        Check.dueEach(usual::house, "3 5 1 3 8 1 1");
        Gatesquare most = Squares.wanting("1011110111010110");
        Check.due(most.house(1), 11);
        Check.due(most.house(3), 13);
    }

    private static void questionsChangeNothing() {
        Check.sentence(39, "Returns whether all is SOUND");
        for (Supplier<Gatesquare> maker : List.of(USUAL, FULL, FRESH)) {
            Gatesquare x = maker.get();
            String before = Check.picture(x);
            Check.due(x.isSound(), true);
            Check.due(x.isSound(), true);
            Check.due(Check.picture(x), before);
            Check.due(Check.picture(x), before);
        }
    }

    private static void soundEverywhere() {
        Check.sentence(39, "both CIRCUITS are ALIKE just if their DIAGRAMS have the same text");
        Gatesquare x = Squares.ofGates(4, "1,0,1 1,2,3 2,4,5");
        x.gate(1, 4, 0, 1);
        x.gate(1, 4, 2, 3);
        x.output(1, x.gate(1, 4, 4, 5));
        Check.due(x.isAlike(), true);
        Check.due(x.diagram(1), x.diagram(0));
        Check.due(x.isSound(), true);
        x.alter(1, 0, 5);
        Check.due(x.isAlike(), false);
        Check.due(x.diagram(1).equals(x.diagram(0)), false);
        Check.due(x.isSound(), true);
        Check.sentence(39, "the CALM one has no RACE");
        for (String table : new String[] {"10", "--", "0110", "01111110", "--------", "1011110111010110", "1001111111110110"}) {
            Check.due(Squares.wanting(table).isSound(), true);
        }
        Check.sentence(39, "by each ORDER the CIRCUIT 0 has no fewer NODES than by the best one");
        x.order(0, 2, 1, 3);
        Check.due(x.isSound(), true);
    }

    /** The checksum of these numbers as it would be without an end, and what 64 bits leave of it. */
    private static BigInteger checksum(Iterable<Integer> numbers) {
        BigInteger d = BigInteger.valueOf(8509);
        for (int number : numbers) {
            d = d.multiply(BigInteger.valueOf(31)).add(BigInteger.valueOf(number));
        }
        return d;
    }

    static BigInteger dueDigest(Gatesquare x) {
        BigInteger endless = checksum(numbersOf(x));
        Check.due(x.digest(), endless.longValue());
        BigInteger rest = endless.mod(TWO_TO_64);
        Check.due(BigInteger.valueOf(x.digest()).mod(TWO_TO_64), rest);
        return endless;
    }

    private static void addCodes(List<Integer> numbers, String text) {
        for (char sign : text.toCharArray()) {
            numbers.add((int) sign);
        }
    }

    private static List<Integer> numbersOf(Gatesquare x) {
        List<Integer> numbers = new java.util.ArrayList<>();
        for (int what = 0; what <= 6; what++) {
            numbers.add(x.house(what));
        }
        for (int circuit = 0; circuit < 2; circuit++) {
            for (int what = 0; what <= 5; what++) {
                numbers.add(x.ofCircuit(circuit, what));
            }
            for (int gate = 0; gate < x.ofCircuit(circuit, 0); gate++) {
                for (int what = 0; what <= 5; what++) {
                    numbers.add(x.ofGate(circuit, gate, what));
                }
            }
            addCodes(numbers, x.table(circuit, x.ofCircuit(circuit, 3)));
            numbers.add(x.diagram(circuit).length());
            numbers.add(x.silent(circuit));
            numbers.add(x.kinds(circuit));
        }
        addCodes(numbers, x.wanted());
        for (String text : new String[] {x.primes(), x.needed(), x.cover(false), x.cover(true), x.race(), x.sum()}) {
            numbers.add(text.length());
        }
        numbers.add(x.parts());
        numbers.add(x.isSound() ? 1 : 0);
        return numbers;
    }

    private static void digestsOfFreshSquares() {
        Check.sentence(40, "Computes a checksum. A number d starts with 8509; for each of the following numbers v, d becomes d * 31 + v, which wraps around as a 64-bit integer");
        // each number of a new square, as the document has them
        List<Integer> numbers = new java.util.ArrayList<>(List.of(3, 0, 0, 0, 0, 0, 0));
        for (int circuit = 0; circuit < 2; circuit++) {
            numbers.addAll(List.of(0, 0, 0, 0, 4, 1, 48, 49, 48, 49, 48, 49, 48, 49, 4, 4, 31));
        }
        numbers.addAll(List.of(48, 48, 48, 48, 48, 48, 48, 48, 0, 0, 0, 0, 1, 1, -1, 1));
        Check.due(new Gatesquare().digest(), checksum(numbers).longValue());
        List<Integer> one = new java.util.ArrayList<>(List.of(1, 0, 0, 0, 0, 0, 0));
        for (int circuit = 0; circuit < 2; circuit++) {
            one.addAll(List.of(0, 0, 0, 0, 1, 1, 48, 49, 4, 0, 63));
        }
        one.addAll(List.of(48, 48, 0, 0, 0, 0, 1, 1, -1, 1));
        Check.due(Squares.ofLines(1).digest(), checksum(one).longValue());
    }

    private static void digestsWrapAround() {
        Check.sentence(40, "which wraps around as a 64-bit integer");
        boolean isSomeBelow = false;
        boolean isSomeAbove = false;
        for (Supplier<Gatesquare> maker : List.of(USUAL, FULL, FRESH, Squares.wide(1), Squares.wide(2), Squares.wide(4),
                Squares::narrow, () -> Squares.wanting("1011110111010110"), () -> Squares.wanting("1-10001-0-111-11"))) {
            // a square for each digest: to ask for all of its numbers takes some 200 calls
            for (Consumer<Gatesquare> change : CHANGES_FOR_DIGEST) {
                Gatesquare x = maker.get();
                change.accept(x);
                Check.due(dueDigest(x).bitLength() > 64, true);
                isSomeBelow = isSomeBelow || x.digest() < 0;
                isSomeAbove = isSomeAbove || x.digest() > Integer.MAX_VALUE;
            }
        }
        Check.due(isSomeBelow && isSomeAbove, true);
    }

    private static void wholeUseOfDigests() {
        Check.sentence(Check.DESCRIPTION, "An object is used for at most 512 calls after it has been made");
        Gatesquare x = Squares.full();
        long due = Squares.full().digest();
        int calls = 1 + 24 + 3;
        for (; calls < 512; calls++) {
            Check.due(x.digest(), due);
        }
    }

    /** 512 calls that change: after each four of them all is undone and told to be as it was. */
    private static void wholeUseOfChanges() {
        Check.sentence(Check.DESCRIPTION, "An object is used for at most 512 calls after it has been made");
        Gatesquare x = Squares.usual();
        int calls = 13;
        long before = x.digest();
        calls++;
        for (int k = 0; calls + 15 < 512; k++) {
            for (int change = 0; change < 4; change++) {
                CHANGES.get((k + change * 4) % CHANGES.size()).accept(x);
            }
            x.digest();
            for (int left = 7; left >= 4; left--) {
                Check.due(x.undo(), left);
            }
            calls += 9;
            // the ways back that were lost come again by calls that change nothing
            for (int again = 0; again < 4; again++) {
                x.order(1, 2, 0, 0);
            }
            Check.due(x.digest(), before);
            calls += 5;
        }
        Gatesquare twin = Squares.usual();
        for (; calls < 511; calls++) {
            Check.due(x.blank(), -9);
            twin.blank();
        }
        Check.due(x.digest(), twin.digest());
    }
}
