import java.util.function.Supplier;

/** The sentences on the wanted table: the second chapter, and the promises 12 to 21. */
final class WantedEdges {
    private static final Supplier<Gatesquare> USUAL = Squares::usual;
    private static final Supplier<Gatesquare> FULL = Squares::full;
    private static final Supplier<Gatesquare> NARROW = Squares::narrow;
    /** Its 13 primes are as many as there can be with four lines; a calm cover needs each. */
    private static final String MOST_PRIMES = "1011110111010110";

    private WantedEdges() {
    }

    static void run() {
        Check.each(
                WantedEdges::wantedAtFirst, WantedEdges::wantNeedsItsPlace, WantedEdges::wantTellsThatBefore,
                WantedEdges::wantTableNeedsItsCircuit, WantedEdges::wantTableEmptyAndFull,
                WantedEdges::wantKnownNeedsItsNumber, WantedEdges::knownTables, WantedEdges::wantedShowsNoMeaning,
                WantedEdges::cubesAndTheirInputs, WantedEdges::cubesThatAreLet, WantedEdges::cubesThatArePrimes,
                WantedEdges::primesOfNothing, WantedEdges::primesOfEverything, WantedEdges::theMostPrimes,
                WantedEdges::primesAsTheyStand, WantedEdges::neededPrimes, WantedEdges::coversOfNothing,
                WantedEdges::signsOfCubes, WantedEdges::coverOfTheFewestSigns, WantedEdges::coverThatIsFirst,
                WantedEdges::calmCovers, WantedEdges::ofCoverNeedsItsNumber, WantedEdges::ofCoverEmptyAndFull,
                WantedEdges::racesOfACover, WantedEdges::theFirstRace, WantedEdges::sumsOfNothing,
                WantedEdges::sumsOfEverything, WantedEdges::sumTakesNoMeaningAsZero, WantedEdges::tablesOneAfterTheOther);
    }

    private static String all(char sign, int lines) {
        return String.valueOf(sign).repeat(1 << lines);
    }

    private static String inputBy(int lines, int input, char sign, char others) {
        StringBuilder table = new StringBuilder(all(others, lines));
        table.setCharAt(input, sign);
        return table.toString();
    }

    /** The cube of one input alone. */
    private static String cubeOf(int lines, int input) {
        StringBuilder cube = new StringBuilder();
        for (int line = 0; line < lines; line++) {
            cube.append(input >> line & 1);
        }
        return cube.toString();
    }

    private static void duePrimes(String table, String primes, String needed, String cover, String calm) {
        Gatesquare x = Squares.wanting(table);
        Check.due(x.wanted(), table);
        Check.due(x.primes(), primes);
        Check.due(x.needed(), needed);
        Check.due(x.cover(false), cover);
        Check.due(x.cover(true), calm);
        Check.due(x.house(3), primes.isEmpty() ? 0 : primes.split(" ").length);
        Check.due(x.isSound(), true);
    }

    private static void wantedAtFirst() {
        Check.sentence(Check.DESCRIPTION, "WANTED has for each INPUT 0, 1, or 2 (no meaning; 0 at first).");
        for (int n = 1; n <= 4; n++) {
            Gatesquare x = Squares.ofLines(n);
            Check.due(x.wanted(), all('0', n));
            for (int input = 0; input < 1 << n; input++) {
                Check.due(x.want(input, input % 3), 0);
            }
            Check.due(x.wanted(), "01-01-01-01-01-0".substring(0, 1 << n));
            Check.due(x.house(1), ((1 << n) + 1) / 3);
            Check.due(x.house(2), (1 << n) / 3);
        }
    }

    private static void wantNeedsItsPlace() {
        Check.sentence(12, "if there is no such INPUT");
        for (int n = 1; n <= 4; n++) {
            Gatesquare x = Squares.ofLines(n);
            int last = (1 << n) - 1;
            Check.due(x.want(0, 1), 0);
            Check.due(x.want(last, 2), 0);
            Check.due(x.house(1), 1);
            Check.due(x.house(2), 1);
            for (int input : Check.outside(0, last)) {
                for (int value = 0; value < 3; value++) {
                    int v = value;
                    Check.refused(Check.INDEX, Squares.wide(n), y -> y.want(input, v));
                }
            }
        }
        for (int input : Check.outside(0, 7)) {
            Check.refused(Check.INDEX, USUAL, x -> x.want(input, 1));
        }
        Check.sentence(12, "if value is not 0 to 2");
        for (int value : Check.outside(0, 2)) {
            Check.refused(Check.ARGUMENT, USUAL, x -> x.want(0, value));
            Check.refused(Check.ARGUMENT, FULL, x -> x.want(15, value));
            Check.refused(Check.ARGUMENT, NARROW, x -> x.want(1, value));
        }
        Check.sentence(Check.DESCRIPTION, "If several exceptions apply, the one that is named first is thrown.");
        for (int value : Check.outside(0, 2)) {
            Check.refused(Check.INDEX, USUAL, x -> x.want(8, value));
            Check.refused(Check.INDEX, USUAL, x -> x.want(-1, value));
        }
    }

    private static void wantTellsThatBefore() {
        Check.sentence(12, "Returns that before.");
        for (int before = 0; before < 3; before++) {
            for (int after = 0; after < 3; after++) {
                Gatesquare x = Squares.wanting("0-10-1-1");
                x.want(5, before);
                Check.due(x.want(5, after), before);
                Check.due(x.want(5, before), after);
                x.want(5, after);
                Check.due(x.wanted(), "0-10-" + "01-".charAt(after) + "-1");
            }
        }
    }

    private static void wantTableNeedsItsCircuit() {
        Check.sentence(13, "if there is no such CIRCUIT");
        for (int circuit : Check.outside(0, 1)) {
            Check.refused(Check.INDEX, USUAL, x -> x.wantTable(circuit));
        }
    }

    private static void wantTableEmptyAndFull() {
        Check.sentence(13, "Returns how many INPUTS are 1.");
        for (int n = 1; n <= 4; n++) {
            Gatesquare x = Squares.ofLines(n);
            x.want(0, 2);
            x.want((1 << n) - 1, 2);
            x.output(1, x.gate(1, 3, 0, 0));
            Check.due(x.wantTable(1), 0);
            Check.due(x.wanted(), all('0', n));
            x.want(0, 2);
            x.output(1, x.gate(1, 0, n, 0));
            Check.due(x.wantTable(1), 1 << n);
            Check.due(x.wanted(), all('1', n));
            Check.due(x.wantTable(0), 1 << n - 1);
            Check.due(x.wanted(), "0101010101010101".substring(0, 1 << n));
        }
    }

    private static void wantKnownNeedsItsNumber() {
        Check.sentence(14, "if known is not 0 to 3");
        for (int known : Check.outside(0, 3)) {
            Check.refused(Check.ARGUMENT, USUAL, x -> x.wantKnown(known));
            Check.refused(Check.ARGUMENT, NARROW, x -> x.wantKnown(known));
        }
    }

    private static void knownTables() {
        Check.sentence(14, "3 whether the first half of the LINES (n / 2, rounded down) as a number (the LINE 0 at 1, the next one at 2) is above the same of the LINES behind it (as many; one more is not looked at)");
        String[] halves = {"00", "0100", "01000100", "0111001100010000"};
        String[] odd = {"01", "0110", "01101001", "0110100110010110"};
        String[] more = {"01", "0001", "00010111", "0000000100010111"};
        String[] same = {"11", "1001", "10000001", "1000000000000001"};
        String[][] tables = {odd, more, same, halves};
        for (int n = 1; n <= 4; n++) {
            for (int known = 0; known < 4; known++) {
                Gatesquare x = Squares.ofLines(n);
                x.want(0, 2);
                x.want(1, 2);
                String table = tables[known][n - 1];
                Check.due(x.wantKnown(known), table.replace("0", "").length());
                Check.due(x.wanted(), table);
                Check.due(x.house(2), 0);
            }
        }
    }

    private static void wantedShowsNoMeaning() {
        Check.sentence(15, "Returns WANTED, with \"-\" for no meaning.");
        for (String table : new String[] {"00", "-1", "1-", "----", "1111", "01-0-10-", "--------", "-0110-10-1-1000-"}) {
            Check.due(Squares.wanting(table).wanted(), table);
        }
    }

    private static void cubesAndTheirInputs() {
        Check.sentence(Check.DESCRIPTION, "A CUBE is a text with a sign for each LINE: \"0\", \"1\" or \"-\"; in it are all INPUTS that have those digits.");
        for (int n = 1; n <= 4; n++) {
            for (int input = 0; input < 1 << n; input++) {
                String cube = cubeOf(n, input);
                duePrimes(inputBy(n, input, '1', '0'), cube, cube, cube, cube);
            }
        }
        // the line 0 stands first, and the digit of it counts 1
        duePrimes("0101", "1-", "1-", "1-", "1-");
        duePrimes("0011", "-1", "-1", "-1", "-1");
        duePrimes("0000111100000000", "--10", "--10", "--10", "--10");
    }

    private static void cubesThatAreLet() {
        Check.sentence(Check.DESCRIPTION, "It is LET, if none of its INPUTS is 0.");
        duePrimes("1-", "-", "-", "-", "-");
        duePrimes("10", "0", "0", "0", "0");
        duePrimes("1000000-", "000", "000", "000", "000");
        duePrimes("1---0000", "--0", "--0", "--0", "--0");
        for (int n = 1; n <= 4; n++) {
            for (int input = 0; input < 1 << n; input++) {
                // all but one: the halves on the other side of each line
                Gatesquare x = Squares.wanting(inputBy(n, input, '0', '1'));
                Check.due(x.house(3), n);
                Check.due(x.ofCover(true, 1), n);
                // and here with no meaning, but for one that is 1
                Gatesquare y = Squares.wanting(inputBy(n, input, '0', '-'));
                y.want(input ^ 1, 1);
                Check.due(y.house(3), 1);
                Check.due(y.ofCover(true, 1), 1);
            }
        }
    }

    private static void cubesThatArePrimes() {
        Check.sentence(Check.DESCRIPTION, "It is a PRIME, if it is LET, one of its INPUTS is 1, and no CUBE that is LET has all of its INPUTS and more.");
        // the cube 11 is let and can not grow, but none of its inputs is 1
        duePrimes("100-", "00", "00", "00", "00");
        duePrimes("1-0-", "-0", "-0", "-0", "-0");
        duePrimes("1--0", "-0 0-", "", "-0", "-0");
        // 0-0 holds 1 and places of no meaning, those at 3, 5 and 7 are in no prime
        duePrimes("10----0-", "0-0 00-", "", "0-0", "0-0");
        // grown by two lines, and by all
        duePrimes("1--0--00", "-0- 0-0", "", "-0-", "-0-");
        duePrimes("-1--1--1", "---", "---", "---", "---");
        // a greater cube without any 1 of its own more keeps the smaller one away
        duePrimes("1-11101-", "--0 -1- 0--", "0--", "--0 0--", "--0 0--");
    }

    private static void primesOfNothing() {
        Check.sentence(16, "Returns the PRIMES, with a blank between two; \"\" without any.");
        for (int n = 1; n <= 4; n++) {
            duePrimes(all('0', n), "", "", "", "");
            duePrimes(all('-', n), "", "", "", "");
            for (int input = 0; input < 1 << n; input++) {
                duePrimes(inputBy(n, input, '-', '0'), "", "", "", "");
                duePrimes(inputBy(n, input, '0', '-'), "", "", "", "");
            }
        }
    }

    private static void primesOfEverything() {
        Check.sentence(16, "Returns the PRIMES, with a blank between two; \"\" without any.");
        for (int n = 1; n <= 4; n++) {
            String whole = "-".repeat(n);
            duePrimes(all('1', n), whole, whole, whole, whole);
            for (int input = 0; input < 1 << n; input++) {
                duePrimes(inputBy(n, input, '1', '-'), whole, whole, whole, whole);
                duePrimes(inputBy(n, input, '-', '1'), whole, whole, whole, whole);
            }
        }
    }

    private static void theMostPrimes() {
        Check.sentence(16, "Returns the PRIMES, with a blank between two; \"\" without any.");
        String primes = "-001 -010 -100 0-00 00-0 000- 0111 1-01 1-10 10-1 101- 11-0 110-";
        duePrimes(MOST_PRIMES, primes, "0111", "-001 -010 0-00 0111 1-01 10-1 11-0", primes);
        duePrimes("1011011011011011",
                "-001 -100 -111 0-00 0-11 00-1 000- 01-0 011- 1-01 1010 11-1 110-", "1010",
                "-001 -100 0-00 0-11 01-0 1010 11-1",
                "-001 -100 -111 0-00 0-11 00-1 000- 01-0 011- 1-01 1010 11-1 110-");
        // an odd number of lines: no cube can grow, and each is needed
        String[] odd = {"1", "01 10", "001 010 100 111", "0001 0010 0100 0111 1000 1011 1101 1110"};
        String[] tables = {"01", "0110", "01101001", "0110100110010110"};
        for (int n = 1; n <= 4; n++) {
            duePrimes(tables[n - 1], odd[n - 1], odd[n - 1], odd[n - 1], odd[n - 1]);
        }
    }

    private static void primesAsTheyStand() {
        Check.sentence(Check.DESCRIPTION, "PRIMES stand by their texts, \"-\" ahead of \"0\", that ahead of \"1\".");
        Check.due(Squares.wanting("0110").primes(), "01 10");
        Check.due(Squares.wanting("1--0").primes(), "-0 0-");
        Check.due(Squares.wanting("01111110").primes(), "-01 -10 0-1 01- 1-0 10-");
        Check.due(Squares.wanting("01-111-11111-1-0").primes(), "--01 --10 -0-1 -01- -1-0 -10- 0--1 0-1- 01-- 1--0 1-0- 10--");
        Check.due(Squares.wanting("1001111111110110").primes(), "--01 --10 00-0 000- 01-1 011- 10-1 101- 11-0 110-");
    }

    private static void neededPrimes() {
        Check.sentence(Check.DESCRIPTION, "A PRIME is NEEDED, if it is the only one that has some INPUT that is 1.");
        Check.sentence(17, "Returns those that are NEEDED, likewise.");
        Check.due(Squares.wanting("00110101").needed(), "-10 1-1");
        Check.due(Squares.wanting("01111110").needed(), "");
        // each prime has places of no meaning alone, but the only 1 is in both
        Check.due(Squares.wanting("0-0-0--1").primes(), "-11 1--");
        Check.due(Squares.wanting("0-0-0--1").needed(), "");
        Check.due(Squares.wanting("1--0").needed(), "");
        Check.due(Squares.wanting("110-0--1-0111010").needed(), "0--1");
        Check.due(Squares.wanting(MOST_PRIMES).needed(), "0111");
    }

    private static void coversOfNothing() {
        Check.sentence(Check.DESCRIPTION, "PRIMES so that each INPUT that is 1 is in one of them");
        Check.sentence(18, "Returns the COVER, likewise.");
        for (int n = 1; n <= 4; n++) {
            for (char sign : new char[] {'0', '-'}) {
                Gatesquare x = Squares.wanting(all(sign, n));
                Check.due(x.cover(false), "");
                Check.due(x.cover(true), "");
                for (int what = 0; what < 4; what++) {
                    Check.due(x.ofCover(false, what), 0);
                    Check.due(x.ofCover(true, what), 0);
                }
            }
        }
    }

    private static void signsOfCubes() {
        Check.sentence(Check.DESCRIPTION, "SIGNS of a CUBE: how many \"0\" and \"1\" it has.");
        String[] tables = {"1111111111111111", "1010101010101010", "0001000100010001", "0000001000000010", "0000000000100000"};
        for (int signs = 0; signs < tables.length; signs++) {
            Gatesquare x = Squares.wanting(tables[signs]);
            Check.due(x.ofCover(false, 0), 1);
            Check.due(x.ofCover(false, 1), signs);
            Check.due(x.ofCover(true, 1), signs);
        }
    }

    private static void coverOfTheFewestSigns() {
        Check.sentence(Check.DESCRIPTION, "The told one has the fewest PRIMES, of these the fewest SIGNS");
        // each of both primes would do alone; the one behind has fewer signs
        duePrimes("0-0-0--1", "-11 1--", "", "1--", "1--");
        duePrimes("0-11-10-", "-01 -10 1--", "-10", "-10 1--", "-10 1--");
        duePrimes("110-0--1-0111010", "-000 -101 -110 0--1 000- 011- 1--0 110-", "0--1",
                "-000 -101 0--1 1--0", "-000 -101 0--1 1--0");
        duePrimes("0-0-0110010-0--1", "-111 011- 1--1 1-0- 10--", "011- 10--", "011- 1--1 10--", "011- 1--1 10--");
        Check.due(Squares.wanting("10-10101110-0111").cover(false), "-111 000- 1--1 1-1- 11--");
    }

    private static void coverThatIsFirst() {
        Check.sentence(Check.DESCRIPTION, "of these the one whose PRIMES, as they stand, are first: by its first PRIME, then its second one, and so on");
        // -11 0-0 are as few with as few signs: the first prime decides, not the last
        duePrimes("1-10001-", "-00 -11 0-0 01-", "", "-00 01-", "0-0 01-");
        duePrimes("10-11101", "-01 -10 0-0 00- 1-1 11-", "", "-01 0-0 11-", "-01 00- 1-1 11-");
        duePrimes("1-10001-0-111-11", "--11 -000 -1-1 -11- 0-00 01-- 1--1", "--11",
                "--11 -000 -1-1 01--", "--11 -1-1 0-00 01--");
        duePrimes("01-111-11111-1-0", "--01 --10 -0-1 -01- -1-0 -10- 0--1 0-1- 01-- 1--0 1-0- 10--", "",
                "--01 -01- 1--0", "--01 --10 -1-0 1-0- 10--");
        duePrimes("1--00101", "-00 0-0 1-1 10-", "1-1", "-00 1-1", "-00 1-1");
    }

    private static void calmCovers() {
        Check.sentence(Check.DESCRIPTION, "CALM is a COVER without RACES; the told one likewise.");
        duePrimes("00110101", "-10 1-1 11-", "-10 1-1", "-10 1-1", "-10 1-1 11-");
        duePrimes("01111110", "-01 -10 0-1 01- 1-0 10-", "", "-01 01- 1-0", "-01 -10 0-1 01- 1-0 10-");
        // a place of no meaning at 3 makes no race, and wants no third prime
        duePrimes("001-0101", "-10 1-1 11-", "-10 1-1", "-10 1-1", "-10 1-1");
        // no more primes than the other cover, but others
        duePrimes("01-1-100", "-01 -10 1-0 10-", "", "-01 1-0", "1-0 10-");
        duePrimes("110001--", "-00 1-1 10-", "-00", "-00 1-1", "-00 10-");
        duePrimes("0-11011111101-11", "--11 -0-1 -1-0 -11- 0--1 01-- 1--0 1-1- 10--", "",
                "--11 -0-1 01-- 1--0", "--11 -0-1 -1-0 0--1 01-- 1-1-");
        for (String table : new String[] {"01111110", MOST_PRIMES, "0-11011111101-11", "1001111111110110", "11011011"}) {
            Gatesquare x = Squares.wanting(table);
            Check.due(x.ofCover(true, 3), 0);
            Check.due(x.ofCover(false, 3) > 0, true);
        }
    }

    private static void ofCoverNeedsItsNumber() {
        Check.sentence(19, "if what is not 0 to 3");
        for (int what : Check.outside(0, 3)) {
            for (boolean isCalm : new boolean[] {false, true}) {
                Check.refused(Check.ARGUMENT, USUAL, x -> x.ofCover(isCalm, what));
                Check.refused(Check.ARGUMENT, NARROW, x -> x.ofCover(isCalm, what));
            }
        }
    }

    private static void dueOfCovers(String table, String plain, String calm) {
        Gatesquare x = Squares.wanting(table);
        Check.dueEach(what -> x.ofCover(false, what), plain);
        Check.dueEach(what -> x.ofCover(true, what), calm);
    }

    private static void ofCoverEmptyAndFull() {
        Check.sentence(19, "0 how many PRIMES, 1 their SIGNS together, 2 how many INPUTS it has that are of no meaning, 3 how many RACES");
        for (int n = 1; n <= 4; n++) {
            dueOfCovers(all('0', n), "0 0 0 0", "0 0 0 0");
            dueOfCovers(all('-', n), "0 0 0 0", "0 0 0 0");
            dueOfCovers(all('1', n), "1 0 0 0", "1 0 0 0");
            dueOfCovers(inputBy(n, (1 << n) - 1, '1', '-'), "1 0 " + ((1 << n) - 1) + " 0", "1 0 " + ((1 << n) - 1) + " 0");
            dueOfCovers(inputBy(n, 0, '1', '0'), "1 " + n + " 0 0", "1 " + n + " 0 0");
        }
        dueOfCovers("0110100110010110", "8 32 0 0", "8 32 0 0");
        dueOfCovers(MOST_PRIMES, "7 22 0 6", "13 40 0 0");
        dueOfCovers("1001111111110110", "5 14 0 8", "10 28 0 0");
        // the place of no meaning at 3 is in both primes, and told once
        dueOfCovers("011-", "2 2 1 0", "2 2 1 0");
        // those of no meaning that are in no prime of the cover are not told
        dueOfCovers("100-", "1 2 0 0", "1 2 0 0");
        dueOfCovers("01-1-100", "2 4 1 1", "2 4 0 0");
        dueOfCovers("-1110-110001000-", "3 6 2 0", "3 6 2 0");
    }

    private static void racesOfACover() {
        Check.sentence(Check.DESCRIPTION, "A RACE of it: two INPUTS that are 1, and differ in one LINE, and no PRIME of it has both.");
        Check.due(Squares.wanting("00110101").ofCover(false, 3), 1);
        Check.due(Squares.wanting("001-0101").ofCover(false, 3), 0);
        Check.due(Squares.wanting("01101-11").ofCover(false, 3), 0);
        Check.due(Squares.wanting("0110").ofCover(false, 3), 0);
        Check.due(Squares.wanting("1001").race(), "-");
        Check.due(Squares.wanting("01111110").ofCover(false, 3), 3);
        Check.due(Squares.wanting("1001111111110110").ofCover(false, 3), 8);
        for (int lines = 1; lines < 3; lines++) {
            // with so few lines each pair of neighbours is in a prime of each cover
            for (int table = 0; table < 1 << (1 << lines); table++) {
                Gatesquare x = Squares.ofLines(lines);
                for (int input = 0; input < 1 << lines; input++) {
                    x.want(input, table >> input & 1);
                }
                Check.due(x.race(), "-");
                Check.due(x.ofCover(false, 3), 0);
            }
        }
    }

    private static void theFirstRace() {
        Check.sentence(20, "Returns the first RACE of the COVER: the smaller INPUT, a blank, the greater one (by the smaller, then by the greater one); \"-\" without any.");
        Check.due(Squares.wanting("00110101").race(), "3 7");
        Check.due(Squares.wanting("01111110").race(), "1 5");
        // 0 4, 1 3 and 6 7: by the smaller one first
        Check.due(Squares.wanting("11011011").race(), "0 4");
        // 4 6 and 4 12: then by the greater one
        Check.due(Squares.wanting("100110110-1-1-00").race(), "4 6");
        Check.due(Squares.wanting("1001111111110110").race(), "0 8");
        Check.due(Squares.wanting("0000000000110101").race(), "11 15");
        Check.due(Squares.wanting("10-10101110-0111").race(), "8 9");
        Check.due(Squares.wanting("001-0101").race(), "-");
        for (int n = 1; n <= 4; n++) {
            Check.due(Squares.wanting(all('0', n)).race(), "-");
            Check.due(Squares.wanting(all('1', n)).race(), "-");
            Check.due(Squares.wanting(all('-', n)).race(), "-");
        }
    }

    private static void sumsOfNothing() {
        Check.sentence(Check.DESCRIPTION, "with \"^\" between; \"0\" without any");
        for (int n = 1; n <= 4; n++) {
            Check.due(Squares.wanting(all('0', n)).sum(), "0");
            Check.due(Squares.wanting(all('-', n)).sum(), "0");
        }
    }

    private static void sumsOfEverything() {
        Check.sentence(Check.DESCRIPTION, "by the numbers of the sets of LINES, each as its letters (\"1\" for none)");
        Check.sentence(21, "Returns SUM.");
        String products = "1^a^b^ab^c^ac^bc^abc^d^ad^bd^abd^cd^acd^bcd^abcd";
        int[] ends = {3, 8, 20, products.length()};
        String[] lasts = {"a", "ab", "abc", "abcd"};
        String[] odd = {"a", "a^b", "a^b^c", "a^b^c^d"};
        for (int n = 1; n <= 4; n++) {
            Check.due(Squares.wanting(all('1', n)).sum(), "1");
            Check.due(Squares.wanting(inputBy(n, 0, '1', '0')).sum(), products.substring(0, ends[n - 1]));
            Check.due(Squares.wanting(inputBy(n, (1 << n) - 1, '1', '0')).sum(), lasts[n - 1]);
            Gatesquare x = Squares.ofLines(n);
            x.wantKnown(0);
            Check.due(x.sum(), odd[n - 1]);
        }
        Check.due(Squares.wanting("10").sum(), "1^a");
        Check.due(Squares.wanting("00010111").sum(), "ab^ac^bc");
        Check.due(Squares.wanting("0000000000110101").sum(), "bd^acd^bcd");
        Check.due(Squares.wanting("1000000000000001").sum(), products.substring(0, products.length() - 5));
    }

    private static void sumTakesNoMeaningAsZero() {
        Check.sentence(Check.DESCRIPTION, "at each INPUT it is 1 in WANTED (0 with no meaning) just if an odd number of these products are 1");
        for (int n = 1; n <= 4; n++) {
            for (int input = 0; input < 1 << n; input++) {
                String taken = Squares.wanting(inputBy(n, input, '0', '1')).sum();
                Check.due(Squares.wanting(inputBy(n, input, '-', '1')).sum(), taken);
            }
        }
        Check.due(Squares.wanting("-1").sum(), "a");
        Check.due(Squares.wanting("1-").sum(), "1^a");
        Check.due(Squares.wanting("011-").sum(), "a^b");
        Check.due(Squares.wanting("0-0-0--1").sum(), "abc");
    }

    private static String toldOf(Gatesquare x) {
        StringBuilder told = new StringBuilder(x.wanted());
        told.append(' ').append(x.primes()).append(" needed ").append(x.needed()).append(" cover ").append(x.cover(false));
        told.append(" calm ").append(x.cover(true)).append(" race ").append(x.race()).append(" sum ").append(x.sum());
        for (int what = 0; what < 4; what++) {
            told.append(' ').append(x.ofCover(false, what)).append(' ').append(x.ofCover(true, what));
        }
        return told.append(' ').append(x.house(3)).toString();
    }

    private static void tablesOneAfterTheOther() {
        Check.sentence(16, "Returns the PRIMES, with a blank between two; \"\" without any.");
        Check.sentence(18, "Returns the COVER, likewise.");
        // what was told of the tables before leaves nothing behind: the next one has fewer primes, or fewer lines
        String[] tables = {MOST_PRIMES, "1111111111111111", "0110100110010110", "0-11011111101-11", "0000000000000000",
            "1001111111110110", "100110110-1-1-00", "----------------", "01111110", "1-10001-", "00110101", "--------",
            "0110", "1--0", "11", "01", "-1", MOST_PRIMES, "01-1-100", "10"};
        Gatesquare x = null;
        for (int k = 0; k < tables.length; k++) {
            x = k % 5 == 0 ? new Gatesquare() : x;
            String table = tables[k];
            x.lines(Integer.numberOfTrailingZeros(table.length()));
            for (int input = 0; input < table.length(); input++) {
                x.want(input, "01-".indexOf(table.charAt(input)));
            }
            Check.due(toldOf(x), toldOf(Squares.wanting(table)));
        }
        // one input after the other comes, and goes
        Gatesquare y = Squares.ofLines(4);
        StringBuilder table = new StringBuilder(all('0', 4));
        for (int k = 0; k < 22; k++) {
            int input = k * 7 % 16;
            table.setCharAt(input, k < 16 ? '1' : '0');
            y.want(input, k < 16 ? 1 : 0);
            Check.due(toldOf(y), toldOf(Squares.wanting(table.toString())));
        }
    }
}
