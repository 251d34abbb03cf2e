import java.lang.reflect.Method;
import java.lang.reflect.Modifier;
import java.util.ArrayList;
import java.util.List;

/** The sentences that name no edge: what the calls do, and what they answer, with ordinary inputs. */
final class OrdinaryCalls {
    private OrdinaryCalls() {
    }

    static void run() {
        Check.each(
                OrdinaryCalls::wholeNumbers, OrdinaryCalls::byRisingNumbers, OrdinaryCalls::theSmallestNumber,
                OrdinaryCalls::twoCircuits, OrdinaryCalls::gatesLookByTheirKind, OrdinaryCalls::howManyInputs,
                OrdinaryCalls::aGateComes, OrdinaryCalls::theLastGateGoes, OrdinaryCalls::aGateLooksElsewhere,
                OrdinaryCalls::aGateHasAnotherKind, OrdinaryCalls::anotherOutput, OrdinaryCalls::valuesAndTables,
                OrdinaryCalls::placesOfWanted, OrdinaryCalls::wantedIsATable, OrdinaryCalls::wantedIsKnown,
                OrdinaryCalls::bothCovers, OrdinaryCalls::sumsAndTheirTexts, OrdinaryCalls::orders,
                OrdinaryCalls::textsOfDiagrams, OrdinaryCalls::theInputNumberK, OrdinaryCalls::whetherAlike,
                OrdinaryCalls::faultsThatAreSilent, OrdinaryCalls::setsThatMakeAll, OrdinaryCalls::blanksAndKnocks,
                OrdinaryCalls::soundCovers, OrdinaryCalls::soundTests, OrdinaryCalls::soundSums,
                OrdinaryCalls::soundOrders, OrdinaryCalls::whatTheDigestTakes);
    }

    // ---- the description

    private static void wholeNumbers() {
        Check.sentence(Check.DESCRIPTION, "Whole numbers.");
        int asked = 0;
        for (Method method : Gatesquare.class.getDeclaredMethods()) {
            if (Modifier.isPublic(method.getModifiers())) {
                for (Class<?> each : method.getParameterTypes()) {
                    Check.due(each == int.class || each == boolean.class && method.getName().toLowerCase().endsWith("cover"), true);
                }
                asked++;
            }
        }
        Check.due(asked, 39);
        // the greatest set of inputs, and a half that is rounded down
        Check.due(Squares.ofGates(4, "3,0,0").tells(0, 4, 1), 65535);
        Check.due(Squares.fresh().wantKnown(3), 2);
    }

    private static void byRisingNumbers() {
        Check.sentence(Check.DESCRIPTION, "X by X is by rising numbers");
        Check.sentence(Check.DESCRIPTION, "Text: NODE by NODE its letter, its low, \" \", its high, with \";\" between; \"0\" or \"1\" if it is an end.");
        Gatesquare x = Squares.ofGates(3, "1,0,1 2,3,2");
        Check.due(x.diagram(0), "c0 1;b2 1;a2 3");
        Check.due(x.order(2, 1, 0, 0), 3);
        Check.due(x.diagram(0), "a0 1;b0 2;c3 1");
        Check.sentence(40, "CIRCUIT by CIRCUIT ofCircuit() of 0 to 5, GATE by GATE ofGate() of 0 to 5");
        // the same gates, but in the other circuit, or in the other order
        Gatesquare one = Squares.fresh();
        one.gate(0, 1, 0, 1);
        one.gate(0, 2, 0, 1);
        Gatesquare other = Squares.fresh();
        other.gate(0, 2, 0, 1);
        other.gate(0, 1, 0, 1);
        Gatesquare third = Squares.fresh();
        third.gate(1, 1, 0, 1);
        third.gate(1, 2, 0, 1);
        Check.due(SquareEdges.dueDigest(one).equals(SquareEdges.dueDigest(other)), false);
        Check.due(SquareEdges.dueDigest(one).equals(SquareEdges.dueDigest(third)), false);
    }

    private static void theSmallestNumber() {
        Check.sentence(Check.DESCRIPTION, "where one of several is taken and nothing else is said, it is that with the smallest number");
        Gatesquare x = Squares.ofGates(4, "2,0,1 2,4,2 2,5,3");
        // by 15 inputs there is a difference, and these tell the fault
        Check.due(x.test(0, 6, 0), 1);
        Check.due(x.input(0, 0), 1);
        x.output(1, x.gate(1, 3, 0, 0));
        Check.due(x.parts(), 1);
        Check.due(x.alter(0, 2, 5), 0);
        Check.due(x.alter(0, 2, 2), 0);
        Check.due(x.rewire(0, 2, 0, 3), 1);
        Check.due(x.parts(), 8);
        Check.due(x.rewire(0, 2, 1, 5), 1);
    }

    private static void twoCircuits() {
        Check.sentence(Check.DESCRIPTION, "CIRCUITS are 0 and 1.");
        Check.sentence(Check.DESCRIPTION, "Each has GATES, at most 12, and WIRES: the LINES, then n + g for the GATE g.");
        for (int circuit = 0; circuit < 2; circuit++) {
            Gatesquare x = Squares.fresh();
            int own = circuit;
            int other = 1 - circuit;
            Check.due(x.gate(own, 1, 0, 1), 3);
            Check.due(x.gate(own, 0, 3, 0), 4);
            Check.due(x.output(own, 4), 0);
            Check.due(x.table(own, 3), "00010001");
            Check.due(x.table(own, 4), "11101110");
            Check.dueEach(what -> x.ofCircuit(own, what), "2 2 2 4 6 2");
            Check.dueEach(what -> x.ofCircuit(other, what), "0 0 0 0 4 1");
            Check.due(x.gate(other, 2, 1, 2), 3);
            Check.due(x.rewire(other, 0, 0, 0), -1);
            Check.due(x.alter(other, 0, 4), -1);
            Check.due(x.table(own, 3), "00010001");
            Check.due(x.table(other, 3), "11111010");
            Check.due(x.ungate(other), 0);
            Check.due(x.ofCircuit(own, 0), 2);
        }
    }

    private static void gatesLookByTheirKind() {
        Check.sentence(Check.DESCRIPTION, "A GATE has a KIND and one or two WIRES that it looks at, first and second: 0 NOT (the first alone), 1 AND");
        Gatesquare x = Squares.fresh();
        for (int kind = 0; kind < 6; kind++) {
            x.gate(0, kind, 2, 1);
        }
        Check.dueEach(gate -> x.ofGate(0, gate, 0), "0 1 2 3 4 5");
        Check.dueEach(gate -> x.ofGate(0, gate, 1), "2 2 2 2 2 2");
        Check.dueEach(gate -> x.ofGate(0, gate, 2), "-1 1 1 1 1 1");
        String[] tables = {"11110000", "00000011", "00111111", "00111100", "11111100", "11000000"};
        for (int gate = 0; gate < 6; gate++) {
            Check.due(x.table(0, 3 + gate), tables[gate]);
        }
    }

    // ---- circuits

    private static void howManyInputs() {
        Check.sentence(2, "Returns how many INPUTS there are.");
        Gatesquare x = Squares.fresh();
        Check.dueEach(k -> x.lines(k + 1), "2 4 8 16");
        Check.due(x.lines(2), 4);
        Check.due(x.wanted().length(), 4);
        Check.due(x.table(0, 1).length(), 4);
    }

    private static void aGateComes() {
        Check.sentence(3, "A GATE comes.");
        Check.sentence(3, "Returns its WIRE.");
        Gatesquare x = Squares.ofLines(4);
        Check.due(x.gate(1, 4, 3, 0), 4);
        Check.due(x.gate(1, 0, 4, 0), 5);
        Check.due(x.gate(1, 2, 4, 5), 6);
        Check.due(x.ofCircuit(1, 0), 3);
        Check.due(x.ofCircuit(1, 3), 0);
        Check.dueEach(what -> x.ofGate(1, 0, what), "4 3 0 1 2 0");
        Check.dueEach(what -> x.ofGate(1, 1, what), "0 4 -1 2 1 0");
        Check.dueEach(what -> x.ofGate(1, 2, what), "2 4 5 3 0 0");
        Check.due(x.table(1, 4), "1111111110101010");
        Check.due(x.table(1, 6), "1111111111111111");
    }

    private static void theLastGateGoes() {
        Check.sentence(4, "The last GATE goes.");
        Gatesquare x = Squares.usual();
        Check.due(x.ungate(0), 3);
        Check.due(Check.thrown(x, y -> y.table(0, 6)), Check.INDEX);
        Check.dueEach(what -> x.ofGate(0, 0, what), "1 0 1 1 1 1");
        Check.dueEach(what -> x.ofGate(0, 1, what), "0 2 -1 1 1 1");
        Check.dueEach(what -> x.ofGate(0, 2, what), "2 3 4 2 0 1");
        Check.due(x.table(0, 5), "11110001");
        Check.due(x.ofCircuit(1, 0), 2);
    }

    private static void aGateLooksElsewhere() {
        Check.sentence(5, "A GATE looks at another WIRE.");
        Check.sentence(5, "0 the first, 1 the second");
        Gatesquare x = Squares.usual();
        Check.due(x.rewire(0, 2, 0, 6), 5);
        Check.dueEach(what -> x.ofGate(0, 2, what), "2 6 4 3 0 1");
        Check.due(x.table(0, 5), "11110100");
        Check.due(x.rewire(0, 2, 1, 2), 0);
        Check.dueEach(what -> x.ofGate(0, 2, what), "2 6 2 3 0 1");
        Check.due(x.table(0, 5), "01001111");
        Check.dueEach(what -> x.ofGate(0, 0, what), "1 0 1 1 1 1");
        Check.dueEach(what -> x.ofGate(0, 3, what), "3 0 3 2 1 1");
        Check.dueEach(what -> x.ofGate(1, 0, what), "3 0 1 1 1 1");
    }

    private static void aGateHasAnotherKind() {
        Check.sentence(6, "A GATE has another KIND.");
        Check.sentence(6, "its KIND from now on");
        Gatesquare x = Squares.usual();
        Check.due(x.alter(0, 2, 3), 3);
        Check.dueEach(what -> x.ofGate(0, 2, what), "3 3 4 2 0 1");
        Check.due(x.table(0, 5), "11100001");
        Check.due(x.alter(0, 0, 5), 0);
        Check.due(x.ofGate(0, 0, 0), 5);
        Check.due(x.table(0, 5), "01111000");
        Check.dueEach(gate -> x.ofGate(0, gate, 0), "5 0 3 3");
        Check.dueEach(gate -> x.ofGate(1, gate, 0), "3 3");
    }

    private static void anotherOutput() {
        Check.sentence(7, "A WIRE is the OUTPUT.");
        Gatesquare x = Squares.usual();
        Check.due(x.output(0, 6), 5);
        Check.due(x.ofCircuit(0, 3), 6);
        Check.due(x.ofCircuit(1, 3), 4);
        Check.dueEach(k -> x.input(0, k), "1 5");
        Check.due(x.diagram(0), "a0 1;b2 0");
        Check.due(x.output(0, 1), 6);
        Check.dueEach(k -> x.input(0, k), "2 3 6 7");
    }

    private static void valuesAndTables() {
        Check.sentence(8, "Returns what the WIRE has by it.");
        Check.sentence(9, "Returns its TABLE.");
        Gatesquare x = Squares.usual();
        String[][] tables = {
            {"01010101", "00110011", "00001111", "00010001", "11110000", "11110001", "01000100"},
            {"01010101", "00110011", "00001111", "01100110", "01101001"},
        };
        for (int circuit = 0; circuit < 2; circuit++) {
            for (int wire = 0; wire < tables[circuit].length; wire++) {
                Check.due(x.table(circuit, wire), tables[circuit][wire]);
                for (int input = 0; input < 8; input++) {
                    Check.due(x.value(circuit, wire, input), tables[circuit][wire].charAt(input) - '0');
                }
            }
        }
        Check.sentence(10, "Returns that.");
        Check.dueEach(what -> x.ofGate(0, 2, what), "2 3 4 2 0 1");
        Check.dueEach(what -> x.ofGate(1, 1, what), "3 3 2 2 0 1");
        Check.sentence(11, "Returns that.");
        x.output(0, 6);
        Check.dueEach(what -> x.ofCircuit(0, what), "4 2 2 6 2 2");
        x.output(0, 4);
        Check.dueEach(what -> x.ofCircuit(0, what), "4 1 1 4 4 1");
    }

    // ---- the wanted table

    private static void placesOfWanted() {
        Check.sentence(12, "Tells a place of WANTED.");
        Check.sentence(12, "0, 1 or 2");
        Gatesquare x = Squares.fresh();
        Check.due(x.want(3, 1), 0);
        Check.due(x.wanted(), "00010000");
        Check.due(x.want(6, 2), 0);
        Check.due(x.wanted(), "000100-0");
        Check.due(x.want(3, 0), 1);
        Check.due(x.wanted(), "000000-0");
        Check.due(x.want(6, 1), 2);
        Check.due(x.wanted(), "00000010");
        Check.due(x.table(0, 0), "01010101");
    }

    private static void wantedIsATable() {
        Check.sentence(13, "WANTED is the TABLE of the OUTPUT of a CIRCUIT.");
        Gatesquare x = Squares.usual();
        Check.due(x.wanted(), "1111-001");
        Check.due(x.wantTable(1), 4);
        Check.due(x.wanted(), "01101001");
        Check.due(x.wantTable(0), 5);
        Check.due(x.wanted(), "11110001");
        // the circuit goes on, WANTED stays
        x.output(0, 0);
        Check.due(x.wanted(), "11110001");
    }

    private static void wantedIsKnown() {
        Check.sentence(14, "WANTED is a known table.");
        Check.sentence(14, "Returns how many INPUTS are 1.");
        Check.sentence(14, "0 whether an odd number of LINES are 1, 1 whether more of them are 1 than 0, 2 whether all are the same, 3 whether the first half");
        for (int n = 1; n <= 4; n++) {
            for (int known = 0; known < 4; known++) {
                Gatesquare x = Squares.ofLines(n);
                StringBuilder due = new StringBuilder();
                for (int input = 0; input < 1 << n; input++) {
                    due.append(isKnownOne(known, input, n) ? '1' : '0');
                }
                Check.due(x.wantKnown(known), due.toString().replace("0", "").length());
                Check.due(x.wanted(), due.toString());
            }
        }
    }

    private static boolean isKnownOne(int known, int input, int lines) {
        int sum = 0;
        for (int line = 0; line < lines; line++) {
            sum += input / (1 << line) % 2;
        }
        int numbers = 1 << lines / 2;
        boolean isAbove = input % numbers > input / numbers % numbers;
        return known == 0 ? sum % 2 == 1 : known == 1 ? sum > lines - sum : known == 2 ? sum % lines == 0 : isAbove;
    }

    private static void bothCovers() {
        Check.sentence(18, "whether a CALM one");
        Gatesquare x = Squares.wanting("00110101");
        Check.due(x.cover(false), "-10 1-1");
        Check.due(x.cover(true), "-10 1-1 11-");
        Check.sentence(19, "whether of the CALM COVER");
        Check.sentence(19, "Returns that.");
        Check.dueEach(what -> x.ofCover(false, what), "2 4 0 1");
        Check.dueEach(what -> x.ofCover(true, what), "3 6 0 0");
        Gatesquare y = Squares.wanting("1-0-");
        Check.dueEach(what -> y.ofCover(false, what), "1 1 1 0");
        Check.sentence(Check.DESCRIPTION, "A COVER: PRIMES so that each INPUT that is 1 is in one of them. The told one has the fewest PRIMES, of these the fewest SIGNS");
        Check.due(Squares.wanting("0-0-0--1").cover(false), "1--");
        Check.due(Squares.wanting("11100100").cover(false), "0-0 10-");
        Check.due(Squares.wanting("11100100").cover(true), "-00 0-0 10-");
    }

    private static void sumsAndTheirTexts() {
        Check.sentence(Check.DESCRIPTION, "SUM: a set of products of LINES (the empty one is \"1\"), so that at each INPUT it is 1 in WANTED (0 with no meaning) just if an odd number of these products are 1.");
        Check.due(Squares.wanting("00010111").sum(), "ab^ac^bc");
        Check.due(Squares.wanting("11110001").sum(), "1^c^abc");
        Check.due(Squares.wanting("1-01").sum(), "1^a^b");
        Check.sentence(Check.DESCRIPTION, "Its text: by the numbers of the sets of LINES, each as its letters (\"1\" for none), with \"^\" between; \"0\" without any.");
        Check.due(Squares.wanting("1001011001101001").sum(), "1^a^b^c^d");
        Check.due(Squares.wanting("0000000000010000").sum(), "abd^abcd");
        Check.due(Squares.wanting("0000000100000001").sum(), "abc");
        Check.due(Squares.wanting("0000000000000000").sum(), "0");
    }

    // ---- diagrams

    private static void orders() {
        Check.sentence(22, "Tells ORDER.");
        Gatesquare x = Squares.usual();
        Check.due(x.diagram(0), "c1 0;a0 1;c1 3;b2 4");
        Check.due(x.order(0, 1, 2, 3), 3);
        Check.due(x.diagram(0), "c1 0;b2 1;a2 3");
        Check.sentence(22, "the first LINE");
        Check.sentence(22, "the third one");
        Check.sentence(22, "the fourth one");
        Gatesquare y = Squares.ofLines(4);
        int wire = y.gate(0, 1, 0, 1);
        wire = y.gate(0, 1, wire, 2);
        y.output(0, y.gate(0, 1, wire, 3));
        // the last of the order is done first
        Check.due(y.diagram(0), "d0 1;c0 2;b0 3;a0 4");
        Check.due(y.order(2, 0, 3, 1), 4);
        Check.due(y.diagram(0), "b0 1;d0 2;a0 3;c0 4");
        Check.due(y.order(1, 3, 0, 2), 4);
        Check.due(y.diagram(0), "c0 1;a0 2;d0 3;b0 4");
    }

    private static void textsOfDiagrams() {
        Check.sentence(23, "Returns the text of the DIAGRAM of its OUTPUT.");
        Check.sentence(Check.DESCRIPTION, "DIAGRAM of a function by it: NODES; an end is 0 or 1.");
        Gatesquare x = Squares.fresh();
        String[] texts = {"a1 0", "b0 1;a0 2", "b0 1;a2 1", "b0 1;b1 0;a2 3", "b1 0;a1 2", "b1 0;a2 0"};
        for (int kind = 0; kind < 6; kind++) {
            x.output(1, x.gate(1, kind, 0, 1));
            Check.due(x.diagram(1), texts[kind]);
            Check.due(x.nodes(1), texts[kind].split(";").length);
            Check.due(x.diagram(0), "a0 1");
        }
    }

    private static void theInputNumberK() {
        Check.sentence(26, "Returns the INPUT number k of those by which the OUTPUT is 1.");
        Gatesquare x = Squares.ofGates(4, "3,0,1 1,4,3");
        Check.due(x.table(0, 5), "0000000001100110");
        Check.dueEach(k -> x.input(0, k), "9 10 13 14");
        Check.dueEach(k -> x.input(1, k), "1 3 5 7 9 11 13 15");
    }

    private static void whetherAlike() {
        Check.sentence(27, "Returns whether both CIRCUITS are ALIKE.");
        Gatesquare x = Squares.usual();
        Check.due(x.isAlike(), false);
        x.output(1, 1);
        Check.due(x.isAlike(), false);
        x.output(0, 1);
        Check.due(x.isAlike(), true);
        // a by a itself, and by (a XOR b) XOR b
        x.output(0, 0);
        Check.due(x.isAlike(), false);
        x.rewire(1, 1, 1, 1);
        x.output(1, 4);
        Check.due(x.isAlike(), true);
    }

    // ---- faults and kinds

    private static void faultsThatAreSilent() {
        Check.sentence(31, "Returns how many FAULTS are SILENT.");
        // the circuit 0 hangs on a, b, c, and not on 6; a OR (a AND b): one of b and two of the gate can not be told
        Check.due(Squares.usual().silent(0), 2);
        Gatesquare x = Squares.ofGates(3, "1,0,1 2,0,3");
        for (int wire = 0; wire < 5; wire++) {
            Check.due(x.tells(0, wire, 0) == 0, wire >= 1 && wire <= 3);
            Check.due(x.tells(0, wire, 1) == 0, wire == 1 || wire == 2);
        }
        Check.due(x.silent(0), 5);
        Check.due(x.silent(1), 4);
    }

    private static void setsThatMakeAll() {
        Check.sentence(34, "a set of KINDS of GATES");
        Check.sentence(34, "Returns whether it makes ALL.");
        Gatesquare x = Squares.fresh();
        Check.due(x.makesAll(1), false);
        Check.due(x.makesAll(2 + 4 + 8), false);
        Check.due(x.makesAll(1 + 8), false);
        Check.due(x.makesAll(1 + 2), true);
        Check.due(x.makesAll(1 + 4), true);
        Check.due(x.makesAll(16), true);
        Check.due(x.makesAll(32), true);
        Check.due(x.makesAll(2 + 8), false);
    }

    // ---- the square

    private static void blanksAndKnocks() {
        Check.sentence(36, "Returns -9.");
        Gatesquare x = Squares.fresh();
        Check.due(x.blank(), -9);
        Check.due(x.blank(), -9);
        Check.sentence(37, "Knocks at the square: nobody comes.");
        String before = x.digest() + x.wanted() + x.diagram(0);
        Gatesquare twin = Squares.fresh();
        twin.blank();
        twin.blank();
        Check.due(twin.digest() + twin.wanted() + twin.diagram(0), before);
        Check.due(x.knock(), 1);
        Check.due(x.knock(), 2);
        Check.sentence(38, "Returns that.");
        Check.dueEach(x::house, "3 0 0 0 0 2 2");
        x.want(0, 1);
        x.want(7, 1);
        x.want(3, 2);
        Check.dueEach(x::house, "3 2 1 2 3 2 2");
    }

    private static List<String> partsOf(String text, String between) {
        return text.isEmpty() ? List.of() : List.of(text.split(between));
    }

    private static boolean isIn(String cube, int input) {
        for (int line = 0; line < cube.length(); line++) {
            if (cube.charAt(line) != '-' && cube.charAt(line) - '0' != (input >> line & 1)) {
                return false;
            }
        }
        return true;
    }

    /** Tables of two and three lines, all that have no place of no meaning or one. */
    private static List<String> manyTables() {
        List<String> tables = new ArrayList<>();
        for (int lines = 2; lines <= 3; lines++) {
            for (int ones = 0; ones < 1 << (1 << lines); ones++) {
                StringBuilder table = new StringBuilder();
                for (int input = 0; input < 1 << lines; input++) {
                    table.append(ones >> input & 1);
                }
                tables.add(table.toString());
                table.setCharAt(ones % (1 << lines), '-');
                tables.add(table.toString());
            }
        }
        return tables;
    }

    private static void soundCovers() {
        Check.sentence(39, "each INPUT that is 1 in WANTED is in a PRIME of each told COVER, and none that is 0; the CALM one has no RACE");
        for (String table : manyTables()) {
            Gatesquare x = Squares.wanting(table);
            for (boolean isCalm : new boolean[] {false, true}) {
                List<String> cover = partsOf(x.cover(isCalm), " ");
                Check.due(partsOf(x.primes(), " ").containsAll(cover), true);
                for (int input = 0; input < table.length(); input++) {
                    int at = input;
                    boolean isCovered = cover.stream().anyMatch(cube -> isIn(cube, at));
                    Check.due(isCovered || table.charAt(input) != '1', true);
                    Check.due(isCovered && table.charAt(input) == '0', false);
                    for (int high = input + 1; isCalm && high < table.length(); high++) {
                        int other = high;
                        boolean isPair = Integer.bitCount(input ^ high) == 1
                                && table.charAt(input) == '1' && table.charAt(high) == '1';
                        Check.due(isPair && cover.stream().noneMatch(cube -> isIn(cube, at) && isIn(cube, other)), false);
                    }
                }
            }
            Check.due(x.ofCover(true, 3), 0);
            Check.due(x.isSound(), true);
        }
    }

    private static void soundTests() {
        Check.sentence(39, "each FAULT of the CIRCUIT 0 that is not SILENT is told by one of its TESTS");
        String[] circuits = {"1,0,1 0,2,0 2,3,4 3,0,3", "3,0,1 3,3,2 1,0,1 1,3,2 2,5,6", "4,0,1 4,0,3 4,1,3 4,4,5",
            "2,0,1 3,1,0 3,0,3 1,5,2 3,6,1 5,0,6", "5,2,0 3,1,3"};
        for (String circuit : circuits) {
            Gatesquare x = Squares.ofGates(3, circuit);
            List<Integer> tests = partsOf(x.tests(0), " ").stream().map(Integer::valueOf).toList();
            int silent = 0;
            for (int wire = 0; wire < 3 + x.ofCircuit(0, 0); wire++) {
                for (int value = 0; value < 2; value++) {
                    int tells = x.tells(0, wire, value);
                    silent += tells == 0 ? 1 : 0;
                    Check.due(tells == 0 || tests.stream().anyMatch(input -> (tells >> input & 1) == 1), true);
                }
            }
            Check.due(x.silent(0), silent);
            Check.due(x.isSound(), true);
        }
    }

    private static void soundSums() {
        Check.sentence(39, "the SUM gives WANTED (0 with no meaning)");
        for (String table : manyTables()) {
            Gatesquare x = Squares.wanting(table);
            List<String> products = x.sum().equals("0") ? List.of() : partsOf(x.sum(), "\\^");
            for (int input = 0; input < table.length(); input++) {
                int at = input;
                long count = products.stream().filter(product -> product.equals("1")
                        || product.chars().allMatch(letter -> (at >> letter - 'a' & 1) == 1)).count();
                Check.due(count % 2 == 1, table.charAt(input) == '1');
            }
            Check.due(x.isSound(), true);
        }
    }

    private static void soundOrders() {
        Check.sentence(39, "and by each ORDER the CIRCUIT 0 has no fewer NODES than by the best one.");
        String[] circuits = {"1,0,1 1,2,3 2,4,5", "1,0,3 1,1,2 2,4,5", "1,0,2 1,1,3 3,4,5", "3,0,1 1,4,2 2,5,3"};
        for (String circuit : circuits) {
            Gatesquare x = Squares.ofGates(4, circuit);
            String best = x.bestOrder(0);
            int fewest = nodesBy(x, best);
            for (int drawn = 0; drawn < 256; drawn++) {
                StringBuilder order = new StringBuilder();
                for (int place = 0; place < 4; place++) {
                    order.append("abcd".charAt(drawn >> 6 - 2 * place & 3));
                }
                if (order.chars().distinct().count() == 4) {
                    int nodes = nodesBy(x, order.toString());
                    // those ahead of the best one by their letters have more
                    Check.due(nodes > fewest || nodes == fewest && order.toString().compareTo(best) >= 0, true);
                }
            }
            Check.due(x.isSound(), true);
        }
    }

    private static int nodesBy(Gatesquare x, String order) {
        return x.order(order.charAt(0) - 'a', order.charAt(1) - 'a', order.charAt(2) - 'a', order.charAt(3) - 'a');
    }

    private static void whatTheDigestTakes() {
        Check.sentence(40, "house() of 0 to 6; CIRCUIT by CIRCUIT ofCircuit() of 0 to 5, GATE by GATE ofGate() of 0 to 5, the codes of the signs of the TABLE of the OUTPUT, the length of diagram(), silent(), kinds(); the codes of the signs of wanted(); the lengths of primes(), needed(), cover() (without and with CALM), race(), sum(); parts(); 1 if isSound(), otherwise 0.");
        Check.sentence(40, "Computes a checksum.");
        Check.sentence(40, "Returns d.");
        for (String table : new String[] {"00110101", "01111110", "1-10001-", "01-1-100"}) {
            Gatesquare x = Squares.wanting(table);
            x.output(0, x.gate(0, 4, 0, 2));
            x.gate(1, 5, 1, 2);
            x.gate(1, 0, 3, 0);
            x.output(1, 4);
            x.knock();
            SquareEdges.dueDigest(x);
        }
    }
}
