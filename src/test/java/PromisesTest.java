import java.util.NoSuchElementException;

/** The promises 1 to 40, a method each: ordinary inputs, the edges, and wrong inputs. */
public final class PromisesTest {
    private static final Class<?> INDEX = IndexOutOfBoundsException.class;
    private static final Class<?> ARGUMENT = IllegalArgumentException.class;
    private static final Class<?> STATE = IllegalStateException.class;
    private static final Class<?> ELEMENT = NoSuchElementException.class;
    private static final int LEAST = Integer.MIN_VALUE;
    private static final int MOST = Integer.MAX_VALUE;
    private static int wrong = 0;
    private static int asked = 0;
    private static int promise = 0;

    public static void main(String[] args) {
        Runnable[] promises = {
            PromisesTest::newObject, PromisesTest::lines, PromisesTest::gate, PromisesTest::ungate,
            PromisesTest::rewire, PromisesTest::alter, PromisesTest::output, PromisesTest::value,
            PromisesTest::table, PromisesTest::ofGate, PromisesTest::ofCircuit, PromisesTest::want,
            PromisesTest::wantTable, PromisesTest::wantKnown, PromisesTest::wanted, PromisesTest::primes,
            PromisesTest::needed, PromisesTest::cover, PromisesTest::ofCover, PromisesTest::race,
            PromisesTest::sum, PromisesTest::order, PromisesTest::diagram, PromisesTest::nodes,
            PromisesTest::bestOrder, PromisesTest::input, PromisesTest::isAlike, PromisesTest::parts,
            PromisesTest::tells, PromisesTest::test, PromisesTest::silent, PromisesTest::tests,
            PromisesTest::kinds, PromisesTest::makesAll, PromisesTest::undo, PromisesTest::blank,
            PromisesTest::knock, PromisesTest::house, PromisesTest::isSound, PromisesTest::digest,
        };
        for (Runnable each : promises) {
            promise++;
            each.run();
        }
        System.out.println("PromisesTest: " + promise + " promises, " + asked + " answers, " + wrong + " wrong");
        if (wrong != 0) {
            System.exit(1);
        }
    }

    private static void due(Object got, Object due) {
        asked++;
        if (!due.equals(got)) {
            wrong++;
            System.out.println("promise " + promise + ": answered " + got + ", due is " + due
                    + " at line " + new Throwable().getStackTrace()[1].getLineNumber());
        }
    }

    /** The call throws just this, no kind of it. */
    private static void refused(Class<?> kind, Runnable call) {
        Class<?> got = null;
        try {
            call.run();
        } catch (RuntimeException e) {
            got = e.getClass();
        }
        asked++;
        if (got != kind) {
            wrong++;
            System.out.println("promise " + promise + ": throws " + got + ", due is " + kind
                    + " at line " + new Throwable().getStackTrace()[1].getLineNumber());
        }
    }

    private static Gatesquare square(int lines) {
        Gatesquare x = new Gatesquare();
        x.lines(lines);
        return x;
    }

    /** The wanted table as a text, "-" for no meaning. */
    private static Gatesquare wanting(String table) {
        Gatesquare x = square(Integer.numberOfTrailingZeros(table.length()));
        for (int input = 0; input < table.length(); input++) {
            x.want(input, "01-".indexOf(table.charAt(input)));
        }
        return x;
    }

    /** Three lines; circuit 0: d = a AND b, e = NOT c, f = d OR e (the output), g = a XOR d. */
    private static Gatesquare usual() {
        Gatesquare x = new Gatesquare();
        x.gate(0, 1, 0, 1);
        x.gate(0, 0, 2, 0);
        x.gate(0, 2, 3, 4);
        x.gate(0, 3, 0, 3);
        x.output(0, 5);
        return x;
    }

    private static void newObject() {
        Gatesquare x = new Gatesquare();
        due(x.house(0), 3);
        due(x.ofCircuit(0, 0), 0);
        due(x.ofCircuit(1, 0), 0);
        due(x.ofCircuit(0, 3), 0);
        due(x.ofCircuit(1, 3), 0);
        due(x.table(0, 0), "01010101");
        due(x.table(1, 2), "00001111");
        due(x.wanted(), "00000000");
        due(x.diagram(0), "a0 1");
        due(x.house(4), 0);
        due(x.house(5), 0);
        due(x.house(6), 0);
        x.gate(0, 3, 0, 1);
        x.output(0, 3);
        due(x.diagram(0), "b0 1;b1 0;a2 3");
    }

    private static void lines() {
        Gatesquare x = new Gatesquare();
        due(x.lines(1), 2);
        due(x.lines(2), 4);
        due(x.lines(3), 8);
        due(x.lines(4), 16);
        x.knock();
        x.blank();
        x.gate(1, 1, 0, 3);
        x.gate(0, 1, 0, 3);
        x.output(1, 4);
        x.order(3, 2, 1, 0);
        x.want(15, 1);
        refused(ARGUMENT, () -> x.lines(0));
        refused(ARGUMENT, () -> x.lines(5));
        refused(ARGUMENT, () -> x.lines(-1));
        refused(ARGUMENT, () -> x.lines(LEAST));
        refused(ARGUMENT, () -> x.lines(MOST));
        due(x.house(0), 4);
        due(x.ofCircuit(1, 3), 4);
        due(x.house(4), 5);
        due(x.lines(4), 16);
        due(x.ofCircuit(0, 0), 0);
        due(x.ofCircuit(1, 0), 0);
        due(x.ofCircuit(1, 3), 0);
        due(x.wanted(), "0000000000000000");
        due(x.house(4), 0);
        due(x.house(5), 1);
        due(x.house(6), 1);
        refused(STATE, x::undo);
        x.gate(0, 1, 0, 3);
        x.output(0, 4);
        due(x.diagram(0), "d0 1;a0 2");
        x.lines(1);
        refused(INDEX, () -> x.table(0, 1));
        due(x.wanted(), "00");
    }

    private static void gate() {
        Gatesquare x = new Gatesquare();
        due(x.gate(0, 1, 0, 1), 3);
        due(x.gate(0, 0, 3, LEAST), 4);
        due(x.gate(0, 0, 4, 99), 5);
        due(x.gate(1, 5, 2, 2), 3);
        due(x.table(0, 3), "00010001");
        due(x.table(0, 4), "11101110");
        due(x.table(1, 3), "11110000");
        refused(INDEX, () -> x.gate(-1, 1, 0, 1));
        refused(INDEX, () -> x.gate(2, 9, 0, 1));
        refused(INDEX, () -> x.gate(0, 1, -1, 1));
        refused(INDEX, () -> x.gate(0, 1, 6, 1));
        refused(INDEX, () -> x.gate(0, 1, 0, 6));
        refused(INDEX, () -> x.gate(0, 1, 0, -1));
        refused(INDEX, () -> x.gate(0, 6, 0, 6));
        refused(INDEX, () -> x.gate(0, -1, 6, 0));
        refused(INDEX, () -> x.gate(1, 1, 0, 4));
        refused(ARGUMENT, () -> x.gate(0, 6, 0, 1));
        refused(ARGUMENT, () -> x.gate(0, -1, 0, 1));
        refused(ARGUMENT, () -> x.gate(0, MOST, 0, 1));
        due(x.ofCircuit(0, 0), 3);
        for (int gate = 3; gate < 12; gate++) {
            due(x.gate(0, 2, gate, 0), gate + 3);
        }
        refused(STATE, () -> x.gate(0, 1, 0, 1));
        refused(STATE, () -> x.gate(0, 0, 14, 15));
        refused(ARGUMENT, () -> x.gate(0, 6, 0, 1));
        refused(INDEX, () -> x.gate(0, 6, 0, 15));
        due(x.ofCircuit(0, 0), 12);
        due(x.gate(1, 1, 0, 1), 4);
        String[] tables = {"1010", "0001", "0111", "0110", "1110", "1000"};
        Gatesquare y = square(2);
        for (int kind = 0; kind < 6; kind++) {
            due(y.table(1, y.gate(1, kind, 0, 1)), tables[kind]);
        }
    }

    private static void ungate() {
        Gatesquare x = usual();
        refused(INDEX, () -> x.ungate(-1));
        refused(INDEX, () -> x.ungate(2));
        refused(STATE, () -> x.ungate(1));
        due(x.ungate(0), 3);
        refused(STATE, () -> x.ungate(0));
        due(x.ofCircuit(0, 0), 3);
        x.output(0, 0);
        due(x.ungate(0), 2);
        x.rewire(0, 0, 1, 4);
        refused(STATE, () -> x.ungate(0));
        x.rewire(0, 0, 1, 1);
        due(x.ungate(0), 1);
        due(x.ungate(0), 0);
        refused(STATE, () -> x.ungate(0));
        refused(INDEX, () -> x.table(0, 3));
        due(x.gate(0, 0, 2, 0), 3);
        due(x.table(0, 3), "11110000");
    }

    private static void rewire() {
        Gatesquare x = usual();
        due(x.table(0, 5), "11110001");
        due(x.rewire(0, 0, 0, 2), 6);
        due(x.table(0, 5), "11110011");
        due(x.rewire(0, 0, 0, 2), -1);
        due(x.rewire(0, 3, 1, 5), -1);
        due(x.rewire(0, 1, 0, 0), 1);
        due(x.ofGate(0, 1, 1), 0);
        refused(STATE, () -> x.rewire(0, 0, 0, 3));
        refused(STATE, () -> x.rewire(0, 0, 1, 5));
        refused(STATE, () -> x.rewire(0, 0, 1, 6));
        refused(STATE, () -> x.rewire(0, 1, 0, 6));
        due(x.ofGate(0, 0, 2), 1);
        due(x.rewire(0, 0, 1, 4), 7);
        refused(STATE, () -> x.rewire(0, 1, 0, 3));
        refused(INDEX, () -> x.rewire(2, 0, 0, 0));
        refused(INDEX, () -> x.rewire(-1, 0, 2, 0));
        refused(INDEX, () -> x.rewire(0, 4, 0, 0));
        refused(INDEX, () -> x.rewire(0, -1, 0, 0));
        refused(INDEX, () -> x.rewire(0, 0, 0, 7));
        refused(INDEX, () -> x.rewire(0, 0, 2, -1));
        refused(INDEX, () -> x.rewire(1, 0, 0, 0));
        refused(ARGUMENT, () -> x.rewire(0, 0, 2, 0));
        refused(ARGUMENT, () -> x.rewire(0, 0, -1, 3));
        refused(ARGUMENT, () -> x.rewire(0, 1, 1, 0));
        refused(ARGUMENT, () -> x.rewire(0, 1, 1, 4));
        due(x.rewire(0, 3, 0, 4), -1);
        due(x.ofGate(0, 3, 1), 4);
    }

    private static void alter() {
        Gatesquare x = usual();
        due(x.alter(0, 0, 2), 5);
        due(x.table(0, 5), "11110111");
        due(x.alter(0, 0, 2), -1);
        due(x.alter(0, 3, 4), -1);
        due(x.ofGate(0, 3, 0), 4);
        due(x.alter(0, 1, 0), -1);
        due(x.alter(0, 2, 5), 0);
        due(x.table(0, 5), "00001000");
        refused(INDEX, () -> x.alter(2, 0, 1));
        refused(INDEX, () -> x.alter(-1, 0, 9));
        refused(INDEX, () -> x.alter(0, 4, 9));
        refused(INDEX, () -> x.alter(0, -1, 1));
        refused(INDEX, () -> x.alter(1, 0, 1));
        refused(ARGUMENT, () -> x.alter(0, 0, 6));
        refused(ARGUMENT, () -> x.alter(0, 0, -1));
        refused(ARGUMENT, () -> x.alter(0, 0, 0));
        refused(ARGUMENT, () -> x.alter(0, 1, 1));
        due(x.ofGate(0, 0, 0), 2);
        due(x.ofGate(0, 1, 0), 0);
    }

    private static void output() {
        Gatesquare x = usual();
        due(x.output(0, 6), 5);
        due(x.output(0, 2), 6);
        due(x.output(0, 2), 2);
        due(x.output(1, 1), 0);
        refused(INDEX, () -> x.output(0, 7));
        refused(INDEX, () -> x.output(0, -1));
        refused(INDEX, () -> x.output(1, 3));
        refused(INDEX, () -> x.output(2, 0));
        refused(INDEX, () -> x.output(-1, 0));
        due(x.ofCircuit(0, 3), 2);
        due(x.ofCircuit(1, 3), 1);
    }

    private static void value() {
        Gatesquare x = usual();
        due(x.value(0, 0, 6), 0);
        due(x.value(0, 1, 6), 1);
        due(x.value(0, 2, 6), 1);
        due(x.value(0, 5, 3), 1);
        due(x.value(0, 5, 4), 0);
        due(x.value(0, 5, 7), 1);
        due(x.value(0, 6, 1), 1);
        due(x.value(0, 6, 3), 0);
        due(x.value(1, 2, 7), 1);
        refused(INDEX, () -> x.value(0, 5, 8));
        refused(INDEX, () -> x.value(0, 5, -1));
        refused(INDEX, () -> x.value(0, 7, 0));
        refused(INDEX, () -> x.value(0, -1, 0));
        refused(INDEX, () -> x.value(1, 3, 0));
        refused(INDEX, () -> x.value(2, 0, 0));
        refused(INDEX, () -> x.value(-1, 0, 0));
        refused(INDEX, () -> x.value(0, 0, 32));
    }

    private static void table() {
        Gatesquare x = usual();
        due(x.table(0, 3), "00010001");
        due(x.table(0, 4), "11110000");
        due(x.table(0, 5), "11110001");
        due(x.table(0, 6), "01000100");
        x.rewire(0, 0, 0, 4);
        due(x.table(0, 3), "00110000");
        due(x.table(0, 6), "01100101");
        due(x.table(1, 1), "00110011");
        refused(INDEX, () -> x.table(0, 7));
        refused(INDEX, () -> x.table(0, -1));
        refused(INDEX, () -> x.table(1, 3));
        refused(INDEX, () -> x.table(2, 0));
        refused(INDEX, () -> x.table(-1, 0));
        due(square(4).table(0, 3), "0000000011111111");
        due(square(1).table(1, 0), "01");
        due(square(2).table(1, 1), "0011");
    }

    private static void ofGate() {
        Gatesquare x = usual();
        int[][] told = {{1, 0, 1, 1, 2, 1}, {0, 2, -1, 1, 1, 1}, {2, 3, 4, 2, 0, 1}, {3, 0, 3, 2, 0, 0}};
        for (int gate = 0; gate < 4; gate++) {
            for (int what = 0; what < 6; what++) {
                due(x.ofGate(0, gate, what), told[gate][what]);
            }
        }
        int twice = x.gate(0, 4, 6, 6) - 3;
        due(x.ofGate(0, 3, 4), 1);
        due(x.ofGate(0, twice, 3), 3);
        x.rewire(0, 0, 1, 4);
        due(x.ofGate(0, 0, 3), 2);
        due(x.ofGate(0, twice, 3), 4);
        due(x.ofGate(0, 1, 4), 2);
        x.output(0, 0);
        due(x.ofGate(0, 0, 5), 0);
        refused(INDEX, () -> x.ofGate(0, 5, 0));
        refused(INDEX, () -> x.ofGate(0, -1, 9));
        refused(INDEX, () -> x.ofGate(1, 0, 0));
        refused(INDEX, () -> x.ofGate(2, 0, 0));
        refused(INDEX, () -> x.ofGate(-1, 0, 0));
        refused(ARGUMENT, () -> x.ofGate(0, 0, 6));
        refused(ARGUMENT, () -> x.ofGate(0, 0, -1));
        Gatesquare chain = square(1);
        for (int gate = 0; gate < 12; gate++) {
            chain.gate(0, 0, gate, 0);
        }
        due(chain.ofGate(0, 11, 3), 12);
    }

    private static void ofCircuit() {
        Gatesquare x = usual();
        int[] told = {4, 3, 2, 5, 5, 3};
        for (int what = 0; what < 6; what++) {
            due(x.ofCircuit(0, what), told[what]);
        }
        int[] empty = {0, 0, 0, 0, 4, 1};
        for (int what = 0; what < 6; what++) {
            due(x.ofCircuit(1, what), empty[what]);
        }
        x.gate(1, 3, 1, 1);
        x.gate(1, 1, 3, 0);
        x.output(1, 4);
        due(x.ofCircuit(1, 1), 2);
        due(x.ofCircuit(1, 4), 0);
        due(x.ofCircuit(1, 5), 0);
        refused(INDEX, () -> x.ofCircuit(2, 0));
        refused(INDEX, () -> x.ofCircuit(-1, 9));
        refused(ARGUMENT, () -> x.ofCircuit(0, 6));
        refused(ARGUMENT, () -> x.ofCircuit(0, -1));
    }

    private static void want() {
        Gatesquare x = new Gatesquare();
        due(x.want(0, 1), 0);
        due(x.want(7, 2), 0);
        due(x.want(0, 2), 1);
        due(x.want(7, 1), 2);
        due(x.want(7, 1), 1);
        due(x.want(0, 0), 2);
        due(x.wanted(), "00000001");
        refused(INDEX, () -> x.want(8, 0));
        refused(INDEX, () -> x.want(-1, 3));
        refused(INDEX, () -> x.want(LEAST, 0));
        refused(INDEX, () -> x.want(32, 0));
        refused(ARGUMENT, () -> x.want(0, 3));
        refused(ARGUMENT, () -> x.want(0, -1));
        due(x.wanted(), "00000001");
    }

    private static void wantTable() {
        Gatesquare x = usual();
        x.want(2, 2);
        due(x.wantTable(0), 5);
        due(x.wanted(), "11110001");
        due(x.wantTable(1), 4);
        due(x.wanted(), "01010101");
        refused(INDEX, () -> x.wantTable(2));
        refused(INDEX, () -> x.wantTable(-1));
        due(x.wanted(), "01010101");
    }

    private static void wantKnown() {
        String[][] told = {
            {"01", "01", "11", "00"},
            {"0110", "0001", "1001", "0100"},
            {"01101001", "00010111", "10000001", "01000100"},
            {"0110100110010110", "0000000100010111", "1000000000000001", "0111001100010000"},
        };
        for (int lines = 1; lines <= 4; lines++) {
            for (int known = 0; known < 4; known++) {
                Gatesquare x = square(lines);
                x.want(1, 2);
                String table = told[lines - 1][known];
                due(x.wantKnown(known), (int) table.chars().filter(sign -> sign == '1').count());
                due(x.wanted(), table);
            }
        }
        Gatesquare x = new Gatesquare();
        refused(ARGUMENT, () -> x.wantKnown(4));
        refused(ARGUMENT, () -> x.wantKnown(-1));
        due(x.house(4), 0);
    }

    private static void wanted() {
        due(wanting("01-0-10-").wanted(), "01-0-10-");
        due(wanting("-1").wanted(), "-1");
        due(square(4).wanted(), "0000000000000000");
    }

    private static void primes() {
        due(wanting("00010111").primes(), "-11 1-1 11-");
        due(wanting("11111111").primes(), "---");
        due(wanting("--------").primes(), "");
        due(wanting("-------1").primes(), "---");
        due(wanting("00000000").primes(), "");
        due(wanting("-0-0-0-0").primes(), "");
        due(wanting("01-0").primes(), "10");
        due(wanting("011-").primes(), "-1 1-");
        due(wanting("1-00").primes(), "-0");
        due(wanting("11010011").primes(), "-00 -11 1-0 11-");
        due(wanting("0110100110010110").primes(), "0001 0010 0100 0111 1000 1011 1101 1110");
        due(wanting("-1110-110001000-").primes(), "--00 -1-0 1--0 11--");
    }

    private static void needed() {
        due(wanting("00010111").needed(), "-11 1-1 11-");
        due(wanting("01111110").needed(), "");
        due(wanting("-1110-110001000-").needed(), "-1-0 11--");
        due(wanting("00000000").needed(), "");
        due(wanting("11-1").needed(), "--");
        due(wanting("1001").needed(), "00 11");
        due(wanting("00110101").primes(), "-10 1-1 11-");
        due(wanting("00110101").needed(), "-10 1-1");
        due(wanting("001-0101").needed(), "-10 1-1");
    }

    private static void cover() {
        due(wanting("00110101").cover(false), "-10 1-1");
        due(wanting("00110101").cover(true), "-10 1-1 11-");
        due(wanting("01111110").cover(false), "-01 01- 1-0");
        due(wanting("01111110").cover(true), "-01 -10 0-1 01- 1-0 10-");
        due(wanting("00000000").cover(false), "");
        due(wanting("00000000").cover(true), "");
        due(wanting("--------").cover(true), "");
        due(wanting("1-1-").cover(false), "--");
        due(wanting("-1110-110001000-").cover(false), "--00 -1-0 11--");
        due(wanting("1000000000000001").cover(true), "0000 1111");
        // "-11" would do alone as well, and stands first, but has more signs
        due(wanting("0-0-0--1").primes(), "-11 1--");
        due(wanting("0-0-0--1").cover(false), "1--");
        // both halves of the ring of six have three primes of two signs: the first by their texts
        due(wanting("01111110").ofCover(false, 1), 6);
    }

    private static void ofCover() {
        Gatesquare x = wanting("-1110-110001000-");
        int[] told = {3, 6, 2, 0};
        for (int what = 0; what < 3; what++) {
            due(x.ofCover(false, what), told[what]);
        }
        Gatesquare y = wanting("00110101");
        int[] plain = {2, 4, 0, 1};
        int[] calm = {3, 6, 0, 0};
        for (int what = 0; what < 4; what++) {
            due(y.ofCover(false, what), plain[what]);
            due(y.ofCover(true, what), calm[what]);
        }
        Gatesquare z = wanting("01111110");
        due(z.ofCover(false, 3), 3);
        due(z.ofCover(true, 3), 0);
        due(z.ofCover(true, 0), 6);
        due(z.ofCover(true, 1), 12);
        due(wanting("1-1-").ofCover(false, 2), 2);
        due(wanting("1-1-").ofCover(true, 1), 0);
        due(wanting("----").ofCover(true, 0), 0);
        refused(ARGUMENT, () -> y.ofCover(false, 4));
        refused(ARGUMENT, () -> y.ofCover(true, -1));
        refused(ARGUMENT, () -> y.ofCover(true, MOST));
    }

    private static void race() {
        due(wanting("00110101").race(), "3 7");
        due(wanting("01111110").race(), "1 5");
        due(wanting("00010111").race(), "-");
        due(wanting("00000000").race(), "-");
        due(wanting("1111").race(), "-");
        due(wanting("001-0101").race(), "-");
        due(wanting("0000000000110101").race(), "11 15");
        due(wanting("10101100").race(), "0 4");
        due(wanting("10101100").cover(true), "-01 0-0 00-");
        due(wanting("11100100").race(), "0 1");
    }

    private static void sum() {
        due(wanting("00010111").sum(), "ab^ac^bc");
        due(wanting("0000").sum(), "0");
        due(wanting("----").sum(), "0");
        due(wanting("1111").sum(), "1");
        due(wanting("10").sum(), "1^a");
        due(wanting("-1").sum(), "a");
        due(wanting("1000000000000001").sum(), "1^a^b^ab^c^ac^bc^abc^d^ad^bd^abd^cd^acd^bcd");
        due(wanting("0000000000000001").sum(), "abcd");
        due(wanting("011-").sum(), "a^b");
        Gatesquare x = square(4);
        x.wantKnown(0);
        due(x.sum(), "a^b^c^d");
    }

    private static void order() {
        Gatesquare x = usual();
        due(x.nodes(0), 3);
        due(x.order(2, 0, 1, 99), 3);
        due(x.diagram(0), "b0 1;a0 2;c1 3");
        refused(ARGUMENT, () -> x.order(0, 0, 1, 2));
        refused(ARGUMENT, () -> x.order(0, 1, 3, 2));
        refused(ARGUMENT, () -> x.order(-1, 1, 2, 0));
        refused(ARGUMENT, () -> x.order(0, 1, 34, 2));
        refused(ARGUMENT, () -> x.order(0, 1, LEAST, 2));
        due(x.diagram(0), "b0 1;a0 2;c1 3");
        Gatesquare four = square(4);
        due(four.order(3, 1, 0, 2), 1);
        refused(ARGUMENT, () -> four.order(3, 1, 0, 3));
        refused(ARGUMENT, () -> four.order(3, 1, 0, 4));
        due(square(1).order(0, 0, 0, 0), 1);
        refused(ARGUMENT, () -> square(1).order(1, 0, 0, 0));
        due(square(2).order(1, 0, -7, 4), 1);
        Gatesquare pairs = square(4);
        pairs.gate(0, 1, 0, 1);
        pairs.gate(0, 1, 2, 3);
        pairs.gate(0, 2, 4, 5);
        pairs.output(0, 6);
        due(pairs.nodes(0), 4);
        due(pairs.order(0, 2, 1, 3), 6);
    }

    private static void diagram() {
        Gatesquare x = usual();
        due(x.diagram(0), "c1 0;b2 1;a2 3");
        due(x.diagram(1), "a0 1");
        x.gate(1, 3, 0, 0);
        x.output(1, 3);
        due(x.diagram(1), "0");
        x.alter(1, 0, 4);
        x.gate(1, 2, 3, 0);
        x.output(1, 4);
        due(x.diagram(1), "1");
        x.rewire(1, 0, 0, 2);
        x.rewire(1, 0, 1, 2);
        due(x.diagram(1), "c1 0;a2 1");
        Gatesquare nor = square(2);
        nor.output(0, nor.gate(0, 5, 0, 1));
        due(nor.diagram(0), "b1 0;a2 0");
        refused(INDEX, () -> x.diagram(2));
        refused(INDEX, () -> x.diagram(-1));
    }

    private static void nodes() {
        Gatesquare x = usual();
        due(x.nodes(0), 3);
        due(x.nodes(1), 1);
        x.gate(1, 3, 0, 0);
        x.output(1, 3);
        due(x.nodes(1), 0);
        x.alter(1, 0, 3);
        x.rewire(1, 0, 1, 1);
        due(x.nodes(1), 3);
        refused(INDEX, () -> x.nodes(2));
        refused(INDEX, () -> x.nodes(-1));
    }

    private static void bestOrder() {
        Gatesquare x = square(4);
        due(x.bestOrder(0), "abcd");
        x.gate(0, 1, 0, 3);
        x.gate(0, 1, 1, 2);
        x.gate(0, 2, 4, 5);
        x.output(0, 6);
        due(x.nodes(0), 6);
        due(x.bestOrder(0), "adbc");
        x.order(3, 2, 1, 0);
        due(x.bestOrder(0), "adbc");
        due(x.order(0, 3, 1, 2), 4);
        due(x.bestOrder(1), "abcd");
        due(square(1).bestOrder(1), "a");
        due(square(2).bestOrder(1), "ab");
        refused(INDEX, () -> x.bestOrder(2));
        refused(INDEX, () -> x.bestOrder(-1));
    }

    private static void input() {
        Gatesquare x = usual();
        int[] inputs = {0, 1, 2, 3, 7};
        for (int k = 0; k < 5; k++) {
            due(x.input(0, k), inputs[k]);
        }
        due(x.input(1, 3), 7);
        refused(ELEMENT, () -> x.input(0, 5));
        refused(ELEMENT, () -> x.input(0, -1));
        refused(ELEMENT, () -> x.input(1, 4));
        refused(INDEX, () -> x.input(2, -1));
        refused(INDEX, () -> x.input(-1, 0));
        x.output(0, x.gate(0, 3, 0, 0));
        refused(ELEMENT, () -> x.input(0, 0));
    }

    private static void isAlike() {
        Gatesquare x = usual();
        due(x.isAlike(), false);
        due(new Gatesquare().isAlike(), true);
        x.gate(1, 4, 0, 1);
        x.gate(1, 4, 3, 2);
        x.output(1, 4);
        due(x.table(1, 4), "11110001");
        due(x.isAlike(), true);
        x.output(1, 3);
        due(x.isAlike(), false);
    }

    private static void parts() {
        Gatesquare x = usual();
        due(x.parts(), 0);
        due(new Gatesquare().parts(), -1);
        x.gate(1, 4, 0, 1);
        x.gate(1, 4, 3, 2);
        x.output(1, 4);
        due(x.parts(), -1);
        x.output(1, 3);
        due(x.parts(), 3);
        Gatesquare last = square(4);
        last.gate(0, 1, 0, 1);
        last.gate(0, 1, 2, 3);
        last.gate(0, 1, 4, 5);
        last.output(0, 6);
        last.gate(1, 3, 0, 0);
        last.output(1, 4);
        due(last.parts(), 15);
    }

    private static void tells() {
        Gatesquare x = usual();
        due(x.tells(0, 0, 0), 1 << 7);
        due(x.tells(0, 0, 1), 1 << 6);
        due(x.tells(0, 2, 0), 1 << 4 | 1 << 5 | 1 << 6);
        due(x.tells(0, 2, 1), 1 << 0 | 1 << 1 | 1 << 2);
        due(x.tells(0, 5, 0), 1 << 0 | 1 << 1 | 1 << 2 | 1 << 3 | 1 << 7);
        due(x.tells(0, 5, 1), 1 << 4 | 1 << 5 | 1 << 6);
        due(x.tells(0, 6, 0), 0);
        due(x.tells(0, 6, 1), 0);
        due(x.tells(1, 0, 0), 0xAA);
        due(x.tells(1, 1, 0), 0);
        refused(INDEX, () -> x.tells(0, 7, 0));
        refused(INDEX, () -> x.tells(0, -1, 5));
        refused(INDEX, () -> x.tells(1, 3, 0));
        refused(INDEX, () -> x.tells(2, 0, 0));
        refused(INDEX, () -> x.tells(-1, 0, 0));
        refused(ARGUMENT, () -> x.tells(0, 0, 2));
        refused(ARGUMENT, () -> x.tells(0, 0, -1));
        Gatesquare most = square(4);
        most.gate(0, 3, 0, 0);
        most.output(0, 4);
        due(most.tells(0, 4, 1), 65535);
    }

    private static void test() {
        Gatesquare x = usual();
        due(x.test(0, 0, 0), 7);
        due(x.test(0, 0, 1), 6);
        due(x.test(0, 2, 0), 4);
        due(x.test(0, 5, 0), 0);
        refused(ELEMENT, () -> x.test(0, 6, 0));
        refused(ELEMENT, () -> x.test(1, 1, 1));
        refused(INDEX, () -> x.test(0, 7, 0));
        refused(INDEX, () -> x.test(0, -1, 2));
        refused(INDEX, () -> x.test(2, 0, 0));
        refused(INDEX, () -> x.test(-1, 0, 0));
        refused(ARGUMENT, () -> x.test(0, 6, 2));
        refused(ARGUMENT, () -> x.test(0, 0, -1));
    }

    private static void silent() {
        Gatesquare x = usual();
        due(x.silent(0), 2);
        due(x.silent(1), 4);
        x.gate(1, 3, 0, 0);
        x.output(1, 3);
        due(x.silent(1), 7);
        due(square(1).silent(0), 0);
        refused(INDEX, () -> x.silent(2));
        refused(INDEX, () -> x.silent(-1));
    }

    private static void tests() {
        Gatesquare x = usual();
        due(x.tests(0), "0 5 6 7");
        due(x.tests(1), "0 1");
        due(square(1).tests(0), "0 1");
        Gatesquare and = square(4);
        and.gate(0, 1, 0, 1);
        and.gate(0, 1, 2, 3);
        and.gate(0, 1, 4, 5);
        and.output(0, 6);
        due(and.tests(0), "7 11 13 14 15");
        and.alter(0, 2, 3);
        and.rewire(0, 2, 1, 4);
        due(and.silent(0), 13);
        due(and.tests(0), "0");
        refused(INDEX, () -> x.tests(2));
        refused(INDEX, () -> x.tests(-1));
    }

    private static void kinds() {
        int[] told = {24, 39, 39, 49, 32, 32};
        for (int kind = 0; kind < 6; kind++) {
            Gatesquare x = square(kind == 0 ? 1 : 2);
            x.output(0, x.gate(0, kind, 0, kind == 0 ? 0 : 1));
            due(x.kinds(0), kind == 0 ? told[0] | 32 : told[kind]);
        }
        Gatesquare x = new Gatesquare();
        due(x.kinds(1), 1 | 2 | 4 | 8 | 16);
        x.output(1, x.gate(1, 3, 0, 0));
        due(x.kinds(1), 1 | 4 | 16 | 32);
        x.output(1, x.gate(1, 0, 3, 0));
        due(x.kinds(1), 2 | 4 | 16 | 32);
        x.output(1, x.gate(1, 3, 0, 1));
        due(x.kinds(1), 1 | 16);
        x.output(1, x.gate(1, 0, 5, 1));
        due(x.kinds(1), 2 | 16);
        x.gate(0, 1, 0, 1);
        x.gate(0, 2, 0, 1);
        x.gate(0, 1, 4, 2);
        x.output(0, x.gate(0, 2, 3, 5));
        due(x.kinds(0), 1 | 2 | 4 | 8 | 32);
        refused(INDEX, () -> x.kinds(2));
        refused(INDEX, () -> x.kinds(-1));
    }

    private static void makesAll() {
        Gatesquare x = new Gatesquare();
        for (int set = 0; set < 64; set++) {
            boolean hasNot = (set & 1) != 0;
            boolean hasAndOr = (set & 6) != 0;
            boolean hasTurned = (set & 48) != 0;
            due(x.makesAll(set), hasTurned || hasNot && hasAndOr);
        }
        refused(ARGUMENT, () -> x.makesAll(64));
        refused(ARGUMENT, () -> x.makesAll(-1));
        refused(ARGUMENT, () -> x.makesAll(LEAST));
        refused(ARGUMENT, () -> x.makesAll(MOST));
    }

    private static void undo() {
        Gatesquare x = usual();
        x.lines(3);
        refused(STATE, x::undo);
        x.gate(0, 1, 0, 1);
        x.rewire(0, 0, 1, 2);
        x.alter(0, 0, 2);
        x.output(0, 3);
        x.want(3, 2);
        x.wantTable(0);
        x.wantKnown(2);
        x.order(2, 1, 0, 0);
        due(x.house(4), 8);
        refused(INDEX, () -> x.output(0, 9));
        refused(ARGUMENT, () -> x.order(1, 1, 1, 1));
        x.blank();
        x.knock();
        due(x.diagram(0), "a0 1;c2 1");
        due(x.undo(), 7);
        due(x.diagram(0), "c0 1;a2 1");
        due(x.undo(), 6);
        due(x.wanted(), "01011111");
        due(x.undo(), 5);
        due(x.wanted(), "000-0000");
        due(x.undo(), 4);
        due(x.wanted(), "00000000");
        due(x.undo(), 3);
        due(x.ofCircuit(0, 3), 0);
        due(x.undo(), 2);
        due(x.ofGate(0, 0, 0), 1);
        due(x.undo(), 1);
        due(x.ofGate(0, 0, 2), 1);
        due(x.undo(), 0);
        due(x.ofCircuit(0, 0), 0);
        refused(STATE, x::undo);
        due(x.house(5), 1);
        due(x.house(6), 1);
        x.gate(1, 1, 0, 1);
        x.ungate(1);
        due(x.undo(), 1);
        due(x.table(1, 3), "00010001");
        for (int k = 0; k < 11; k++) {
            x.want(k % 8, 1);
        }
        due(x.house(4), 8);
        for (int k = 7; k >= 0; k--) {
            due(x.undo(), k);
        }
        due(x.wanted(), "11100000");
        refused(STATE, x::undo);
        x.want(0, 1);
        due(x.house(4), 1);
        x.lines(3);
        refused(STATE, x::undo);
    }

    private static void blank() {
        Gatesquare x = new Gatesquare();
        due(x.blank(), -9);
        due(x.blank(), -9);
        due(x.house(5), 2);
        x.lines(2);
        due(x.blank(), -9);
        due(x.house(5), 3);
        due(x.house(4), 0);
    }

    private static void knock() {
        Gatesquare x = new Gatesquare();
        due(x.knock(), 1);
        due(x.knock(), 2);
        x.lines(4);
        due(x.knock(), 3);
        due(x.house(6), 3);
        due(x.house(5), 0);
        due(x.house(4), 0);
    }

    private static void house() {
        Gatesquare x = wanting("01-1");
        x.knock();
        int[] told = {2, 2, 1, 2, 4, 0, 1};
        for (int what = 0; what < 7; what++) {
            due(x.house(what), told[what]);
        }
        due(wanting("00010111").house(3), 3);
        due(square(4).house(3), 0);
        refused(ARGUMENT, () -> x.house(7));
        refused(ARGUMENT, () -> x.house(-1));
    }

    private static void isSound() {
        due(new Gatesquare().isSound(), true);
        due(usual().isSound(), true);
        due(wanting("01111110").isSound(), true);
        due(wanting("-1110-110001000-").isSound(), true);
        Gatesquare x = usual();
        x.order(2, 0, 1, 0);
        x.gate(1, 3, 0, 0);
        x.output(1, 3);
        due(x.isSound(), true);
        due(x.diagram(0), "b0 1;a0 2;c1 3");
    }

    private static void digest() {
        Gatesquare x = usual();
        x.want(1, 2);
        for (int input : new int[] {2, 3, 5, 7}) {
            x.want(input, 1);
        }
        x.want(1, 0);
        due(x.cover(false).length() < x.cover(true).length(), true);
        x.want(4, 2);
        x.gate(1, 0, 1, 0);
        x.blank();
        x.knock();
        long d = 8509;
        for (int what = 0; what < 7; what++) {
            d = d * 31 + x.house(what);
        }
        for (int circuit = 0; circuit < 2; circuit++) {
            for (int what = 0; what < 6; what++) {
                d = d * 31 + x.ofCircuit(circuit, what);
            }
            for (int gate = 0; gate < x.ofCircuit(circuit, 0); gate++) {
                for (int what = 0; what < 6; what++) {
                    d = d * 31 + x.ofGate(circuit, gate, what);
                }
            }
            for (char sign : x.table(circuit, x.ofCircuit(circuit, 3)).toCharArray()) {
                d = d * 31 + sign;
            }
            d = d * 31 + x.diagram(circuit).length();
            d = d * 31 + x.silent(circuit);
            d = d * 31 + x.kinds(circuit);
        }
        for (char sign : x.wanted().toCharArray()) {
            d = d * 31 + sign;
        }
        for (String text : new String[] {x.primes(), x.needed(), x.cover(false), x.cover(true), x.race(), x.sum()}) {
            d = d * 31 + text.length();
        }
        d = d * 31 + x.parts();
        d = d * 31 + 1;
        due(x.digest(), d);
        due(x.digest(), d);
        x.blank();
        due(x.digest() == d, false);
    }
}
