import java.math.BigInteger;
import java.util.ArrayDeque;
import java.util.ArrayList;
import java.util.Deque;
import java.util.LinkedHashMap;
import java.util.List;
import java.util.Map;
import java.util.NoSuchElementException;

/** The document, word by word: texts and lists, every set tried. */
final class Plain {
    private static final class Gate {
        int kind;
        int[] looks;

        Gate(int kind, int... looks) {
            this.kind = kind;
            this.looks = looks;
        }
    }

    int lines = 3;
    private List<List<Gate>> circuits = List.of(new ArrayList<>(), new ArrayList<>());
    private int[] outputs = {0, 0};
    private char[] wanted = "00000000".toCharArray();
    private List<Integer> order = List.of(0, 1, 2);
    private final Deque<Object[]> undoable = new ArrayDeque<>();
    private int blanks;
    private int knocks;

    int gates(int circuit) {
        return circuits.get(circuit).size();
    }

    public int lines(int n) {
        if (n < 1 || n > 4) {
            throw new IllegalArgumentException();
        }
        lines = n;
        circuits = List.of(new ArrayList<>(), new ArrayList<>());
        outputs = new int[] {0, 0};
        wanted = "0".repeat(1 << n).toCharArray();
        List<Integer> usual = new ArrayList<>();
        for (int line = 0; line < n; line++) {
            usual.add(line);
        }
        order = usual;
        undoable.clear();
        return inputs();
    }

    private int inputs() {
        return 1 << lines;
    }

    private void index(boolean isThere) {
        if (!isThere) {
            throw new IndexOutOfBoundsException();
        }
    }

    private void argument(boolean isRight) {
        if (!isRight) {
            throw new IllegalArgumentException();
        }
    }

    private void state(boolean isRight) {
        if (!isRight) {
            throw new IllegalStateException();
        }
    }

    private boolean isCircuit(int circuit) {
        return circuit == 0 || circuit == 1;
    }

    private boolean isWire(int circuit, int wire) {
        return isCircuit(circuit) && wire >= 0 && wire < lines + gates(circuit);
    }

    private boolean isGate(int circuit, int gate) {
        return isCircuit(circuit) && gate >= 0 && gate < gates(circuit);
    }

    private void keep() {
        List<List<Gate>> copies = new ArrayList<>();
        for (List<Gate> gates : circuits) {
            List<Gate> copy = new ArrayList<>();
            for (Gate gate : gates) {
                copy.add(new Gate(gate.kind, gate.looks.clone()));
            }
            copies.add(copy);
        }
        undoable.addLast(new Object[] {copies, outputs.clone(), wanted.clone(), new ArrayList<>(order)});
        if (undoable.size() > 8) {
            undoable.removeFirst();
        }
    }

    @SuppressWarnings("unchecked")
    public int undo() {
        state(!undoable.isEmpty());
        Object[] kept = undoable.removeLast();
        circuits = (List<List<Gate>>) kept[0];
        outputs = (int[]) kept[1];
        wanted = (char[]) kept[2];
        order = (List<Integer>) kept[3];
        return undoable.size();
    }

    public int gate(int circuit, int kind, int first, int second) {
        index(isWire(circuit, first) && (kind == 0 || isWire(circuit, second)));
        argument(kind >= 0 && kind <= 5);
        state(gates(circuit) < 12);
        keep();
        circuits.get(circuit).add(kind == 0 ? new Gate(kind, first) : new Gate(kind, first, second));
        return lines + gates(circuit) - 1;
    }

    private boolean looks(Gate gate, int wire) {
        for (int at : gate.looks) {
            if (at == wire) {
                return true;
            }
        }
        return false;
    }

    private int lookers(int circuit, int wire) {
        int count = 0;
        for (Gate gate : circuits.get(circuit)) {
            if (looks(gate, wire)) {
                count++;
            }
        }
        return count;
    }

    public int ungate(int circuit) {
        index(isCircuit(circuit));
        int last = lines + gates(circuit) - 1;
        state(gates(circuit) > 0 && lookers(circuit, last) == 0 && outputs[circuit] != last);
        keep();
        circuits.get(circuit).remove(gates(circuit) - 1);
        return gates(circuit);
    }

    private boolean reaches(int circuit, int from, int to) {
        if (from == to) {
            return true;
        }
        if (from < lines) {
            return false;
        }
        for (int at : circuits.get(circuit).get(from - lines).looks) {
            if (reaches(circuit, at, to)) {
                return true;
            }
        }
        return false;
    }

    public int rewire(int circuit, int gate, int side, int wire) {
        index(isGate(circuit, gate) && isWire(circuit, wire));
        Gate changed = circuits.get(circuit).get(gate);
        argument(side >= 0 && side <= 1 && side < changed.looks.length);
        state(!reaches(circuit, wire, lines + gate));
        String before = outputText(circuit);
        keep();
        changed.looks[side] = wire;
        return difference(before, outputText(circuit));
    }

    public int alter(int circuit, int gate, int kind) {
        index(isGate(circuit, gate));
        Gate changed = circuits.get(circuit).get(gate);
        argument(kind >= 0 && kind <= 5 && (kind == 0) == (changed.kind == 0));
        String before = outputText(circuit);
        keep();
        changed.kind = kind;
        return difference(before, outputText(circuit));
    }

    private int difference(String one, String other) {
        for (int input = 0; input < one.length(); input++) {
            if (one.charAt(input) != other.charAt(input)) {
                return input;
            }
        }
        return -1;
    }

    public int output(int circuit, int wire) {
        index(isWire(circuit, wire));
        keep();
        int before = outputs[circuit];
        outputs[circuit] = wire;
        return before;
    }

    private int run(int circuit, int wire, int input, int stuckWire, int stuckValue) {
        if (wire == stuckWire) {
            return stuckValue;
        }
        if (wire < lines) {
            return input / (1 << wire) % 2;
        }
        Gate gate = circuits.get(circuit).get(wire - lines);
        int a = run(circuit, gate.looks[0], input, stuckWire, stuckValue);
        if (gate.kind == 0) {
            return 1 - a;
        }
        int b = run(circuit, gate.looks[1], input, stuckWire, stuckValue);
        int[] answers = {-1, a * b, Math.max(a, b), a == b ? 0 : 1, 1 - a * b, 1 - Math.max(a, b)};
        return answers[gate.kind];
    }

    public int value(int circuit, int wire, int input) {
        index(isWire(circuit, wire) && input >= 0 && input < inputs());
        return run(circuit, wire, input, -1, 0);
    }

    public String table(int circuit, int wire) {
        index(isWire(circuit, wire));
        StringBuilder text = new StringBuilder();
        for (int input = 0; input < inputs(); input++) {
            text.append(run(circuit, wire, input, -1, 0));
        }
        return text.toString();
    }

    private String outputText(int circuit) {
        return table(circuit, outputs[circuit]);
    }

    private int level(int circuit, int wire) {
        if (wire < lines) {
            return 0;
        }
        int most = 0;
        for (int at : circuits.get(circuit).get(wire - lines).looks) {
            most = Math.max(most, level(circuit, at));
        }
        return most + 1;
    }

    public int ofGate(int circuit, int gate, int what) {
        index(isGate(circuit, gate));
        argument(what >= 0 && what <= 5);
        Gate told = circuits.get(circuit).get(gate);
        int wire = lines + gate;
        return switch (what) {
            case 0 -> told.kind;
            case 1 -> told.looks[0];
            case 2 -> told.kind == 0 ? -1 : told.looks[1];
            case 3 -> level(circuit, wire);
            case 4 -> lookers(circuit, wire);
            default -> reaches(circuit, outputs[circuit], wire) ? 1 : 0;
        };
    }

    public int ofCircuit(int circuit, int what) {
        index(isCircuit(circuit));
        argument(what >= 0 && what <= 5);
        int count = 0;
        switch (what) {
            case 0:
                return gates(circuit);
            case 1:
                for (int gate = 0; gate < gates(circuit); gate++) {
                    count += ofGate(circuit, gate, 5);
                }
                return count;
            case 2:
                return level(circuit, outputs[circuit]);
            case 3:
                return outputs[circuit];
            case 4:
                return ones(outputText(circuit));
            default:
                for (int line = 0; line < lines; line++) {
                    for (int input = 0; input < inputs(); input++) {
                        String text = outputText(circuit);
                        if (text.charAt(input) != text.charAt(input ^ 1 << line)) {
                            count++;
                            break;
                        }
                    }
                }
                return count;
        }
    }

    private int ones(String text) {
        return count(text, '1');
    }

    private int count(String text, char sign) {
        return (int) text.chars().filter(c -> c == sign).count();
    }

    public int want(int input, int value) {
        index(input >= 0 && input < inputs());
        argument(value >= 0 && value <= 2);
        keep();
        int before = "01-".indexOf(wanted[input]);
        wanted[input] = "01-".charAt(value);
        return before;
    }

    public int wantTable(int circuit) {
        index(isCircuit(circuit));
        keep();
        wanted = outputText(circuit).toCharArray();
        return ones(wanted());
    }

    public int wantKnown(int known) {
        argument(known >= 0 && known <= 3);
        keep();
        for (int input = 0; input < inputs(); input++) {
            int[] digits = new int[lines];
            int sum = 0;
            for (int line = 0; line < lines; line++) {
                digits[line] = input >> line & 1;
                sum += digits[line];
            }
            int half = lines / 2;
            int left = 0;
            int right = 0;
            for (int k = 0; k < half; k++) {
                left += digits[k] << k;
                right += digits[half + k] << k;
            }
            boolean isOne = known == 0 ? sum % 2 == 1
                    : known == 1 ? sum > lines - sum
                    : known == 2 ? sum == 0 || sum == lines
                    : left > right;
            wanted[input] = isOne ? '1' : '0';
        }
        return ones(wanted());
    }

    public String wanted() {
        return new String(wanted);
    }

    private List<String> cubes(int length) {
        List<String> all = new ArrayList<>();
        if (length == 0) {
            all.add("");
            return all;
        }
        for (char sign : "-01".toCharArray()) {
            for (String rest : cubes(length - 1)) {
                all.add(sign + rest);
            }
        }
        return all;
    }

    private List<Integer> inputsOf(String cube) {
        List<Integer> found = new ArrayList<>();
        for (int input = 0; input < inputs(); input++) {
            boolean isIn = true;
            for (int line = 0; line < lines; line++) {
                char sign = cube.charAt(line);
                isIn = isIn && (sign == '-' || sign - '0' == (input >> line & 1));
            }
            if (isIn) {
                found.add(input);
            }
        }
        return found;
    }

    private List<String> primeList() {
        List<String> let = new ArrayList<>();
        for (String cube : cubes(lines)) {
            if (inputsOf(cube).stream().noneMatch(input -> wanted[input] == '0')) {
                let.add(cube);
            }
        }
        List<String> found = new ArrayList<>();
        for (String cube : let) {
            List<Integer> own = inputsOf(cube);
            boolean isPrime = own.stream().anyMatch(input -> wanted[input] == '1');
            for (String other : let) {
                List<Integer> theirs = inputsOf(other);
                isPrime = isPrime && !(theirs.containsAll(own) && theirs.size() > own.size());
            }
            if (isPrime) {
                found.add(cube);
            }
        }
        return found;
    }

    public String primes() {
        return String.join(" ", primeList());
    }

    public String needed() {
        List<String> all = primeList();
        List<String> found = new ArrayList<>();
        for (String prime : all) {
            for (int input : inputsOf(prime)) {
                long having = all.stream().filter(other -> inputsOf(other).contains(input)).count();
                if (wanted[input] == '1' && having == 1) {
                    found.add(prime);
                    break;
                }
            }
        }
        return String.join(" ", found);
    }

    private List<int[]> races(List<String> chosen) {
        List<int[]> found = new ArrayList<>();
        for (int low = 0; low < inputs(); low++) {
            for (int high = low + 1; high < inputs(); high++) {
                if (Integer.bitCount(low ^ high) == 1 && wanted[low] == '1' && wanted[high] == '1') {
                    boolean isCalm = false;
                    for (String prime : chosen) {
                        isCalm = isCalm || inputsOf(prime).containsAll(List.of(low, high));
                    }
                    if (!isCalm) {
                        found.add(new int[] {low, high});
                    }
                }
            }
        }
        return found;
    }

    private int signs(List<String> chosen) {
        String text = String.join("", chosen);
        return count(text, '0') + count(text, '1');
    }

    private final Map<String, List<String>> coversFound = new LinkedHashMap<>();

    private List<String> coverList(boolean isCalm) {
        return coversFound.computeIfAbsent(isCalm + wanted(), key -> findCover(isCalm));
    }

    private List<String> findCover(boolean isCalm) {
        List<String> all = primeList();
        int most = all.size();
        int oneInputs = 0;
        for (int input = 0; input < inputs(); input++) {
            oneInputs |= wanted[input] == '1' ? 1 << input : 0;
        }
        int[] bits = new int[most];
        for (int k = 0; k < most; k++) {
            for (int input : inputsOf(all.get(k))) {
                bits[k] |= 1 << input;
            }
        }
        List<Integer> best = null;
        for (int set = 0; set < 1 << most; set++) {
            if (best != null && Integer.bitCount(set) > best.size()) {
                continue;
            }
            int had = 0;
            List<Integer> numbers = new ArrayList<>();
            for (int k = 0; k < most; k++) {
                if ((set >> k & 1) == 1) {
                    had |= bits[k];
                    numbers.add(k);
                }
            }
            if ((oneInputs & ~had) != 0 || isCalm && !races(pick(all, numbers)).isEmpty()) {
                continue;
            }
            if (best == null || isBefore(all, numbers, best)) {
                best = numbers;
            }
        }
        return pick(all, best);
    }

    private List<String> pick(List<String> all, List<Integer> numbers) {
        List<String> picked = new ArrayList<>();
        for (int number : numbers) {
            picked.add(all.get(number));
        }
        return picked;
    }

    private boolean isBefore(List<String> all, List<Integer> one, List<Integer> other) {
        if (one.size() != other.size()) {
            return one.size() < other.size();
        }
        int signs = signs(pick(all, one)) - signs(pick(all, other));
        if (signs != 0) {
            return signs < 0;
        }
        return isFirst(one, other);
    }

    private boolean isFirst(List<Integer> one, List<Integer> other) {
        for (int k = 0; k < one.size(); k++) {
            if (!one.get(k).equals(other.get(k))) {
                return one.get(k) < other.get(k);
            }
        }
        return false;
    }

    public String cover(boolean isCalm) {
        return String.join(" ", coverList(isCalm));
    }

    public int ofCover(boolean isCalm, int what) {
        argument(what >= 0 && what <= 3);
        List<String> chosen = coverList(isCalm);
        if (what == 0) {
            return chosen.size();
        }
        if (what == 1) {
            return signs(chosen);
        }
        if (what == 3) {
            return races(chosen).size();
        }
        int count = 0;
        for (int input = 0; input < inputs(); input++) {
            int at = input;
            if (wanted[input] == '-' && chosen.stream().anyMatch(prime -> inputsOf(prime).contains(at))) {
                count++;
            }
        }
        return count;
    }

    public String race() {
        List<int[]> found = races(coverList(false));
        return found.isEmpty() ? "-" : found.get(0)[0] + " " + found.get(0)[1];
    }

    private List<Integer> products(String text) {
        List<Integer> sets = new ArrayList<>();
        for (int set = 0; set < text.length(); set++) {
            int count = 0;
            for (int input = 0; input < text.length(); input++) {
                if ((input & ~set) == 0 && text.charAt(input) == '1') {
                    count++;
                }
            }
            if (count % 2 == 1) {
                sets.add(set);
            }
        }
        return sets;
    }

    public String sum() {
        List<String> texts = new ArrayList<>();
        for (int set : products(wanted())) {
            StringBuilder letters = new StringBuilder();
            for (int line = 0; line < lines; line++) {
                if ((set >> line & 1) == 1) {
                    letters.append("abcd".charAt(line));
                }
            }
            texts.add(set == 0 ? "1" : letters.toString());
        }
        return texts.isEmpty() ? "0" : String.join("^", texts);
    }

    public int order(int a, int b, int c, int d) {
        List<Integer> told = List.of(a, b, c, d).subList(0, lines);
        for (int line = 0; line < lines; line++) {
            argument(told.contains(line));
        }
        keep();
        order = told;
        return nodes(0);
    }

    /** A function is its table over all inputs; ends and nodes are texts, and like ones get one number. */
    private int draw(String text, List<Integer> left, Map<String, Integer> numbers) {
        if (text.indexOf('1') < 0) {
            return 0;
        }
        if (text.indexOf('0') < 0) {
            return 1;
        }
        int line = left.get(0);
        List<Integer> behind = left.subList(1, left.size());
        StringBuilder low = new StringBuilder();
        StringBuilder high = new StringBuilder();
        for (int input = 0; input < text.length(); input++) {
            low.append(text.charAt(input & ~(1 << line)));
            high.append(text.charAt(input | 1 << line));
        }
        if (low.toString().equals(high.toString())) {
            return draw(text, behind, numbers);
        }
        int lowNumber = draw(low.toString(), behind, numbers);
        int highNumber = draw(high.toString(), behind, numbers);
        String node = "abcd".charAt(line) + "" + lowNumber + " " + highNumber;
        if (!numbers.containsKey(node)) {
            numbers.put(node, numbers.size() + 2);
        }
        return numbers.get(node);
    }

    public String diagram(int circuit) {
        index(isCircuit(circuit));
        Map<String, Integer> numbers = new LinkedHashMap<>();
        int root = draw(outputText(circuit), order, numbers);
        return numbers.isEmpty() ? "" + root : String.join(";", numbers.keySet());
    }

    private int nodesBy(int circuit, List<Integer> byOrder) {
        Map<String, Integer> numbers = new LinkedHashMap<>();
        draw(outputText(circuit), byOrder, numbers);
        return numbers.size();
    }

    public int nodes(int circuit) {
        index(isCircuit(circuit));
        return nodesBy(circuit, order);
    }

    private void addOrders(List<Integer> start, List<List<Integer>> all) {
        if (start.size() == lines) {
            all.add(start);
        }
        for (int line = 0; line < lines; line++) {
            if (!start.contains(line)) {
                List<Integer> longer = new ArrayList<>(start);
                longer.add(line);
                addOrders(longer, all);
            }
        }
    }

    private List<List<Integer>> orders() {
        List<List<Integer>> all = new ArrayList<>();
        addOrders(new ArrayList<>(), all);
        return all;
    }

    public String bestOrder(int circuit) {
        index(isCircuit(circuit));
        List<Integer> best = null;
        for (List<Integer> tried : orders()) {
            if (best == null || nodesBy(circuit, tried) < nodesBy(circuit, best)) {
                best = tried;
            }
        }
        StringBuilder letters = new StringBuilder();
        for (int line : best) {
            letters.append("abcd".charAt(line));
        }
        return letters.toString();
    }

    public int input(int circuit, int k) {
        index(isCircuit(circuit));
        List<Integer> found = new ArrayList<>();
        String text = outputText(circuit);
        for (int input = 0; input < inputs(); input++) {
            if (text.charAt(input) == '1') {
                found.add(input);
            }
        }
        if (k < 0 || k >= found.size()) {
            throw new NoSuchElementException();
        }
        return found.get(k);
    }

    public boolean isAlike() {
        return outputText(0).equals(outputText(1));
    }

    public int parts() {
        return difference(outputText(0), outputText(1));
    }

    public int tells(int circuit, int wire, int value) {
        index(isWire(circuit, wire));
        argument(value == 0 || value == 1);
        int set = 0;
        for (int input = 0; input < inputs(); input++) {
            int out = outputs[circuit];
            if (run(circuit, out, input, -1, 0) != run(circuit, out, input, wire, value)) {
                set += 1 << input;
            }
        }
        return set;
    }

    public int test(int circuit, int wire, int value) {
        int set = tells(circuit, wire, value);
        for (int input = 0; input < inputs(); input++) {
            if ((set >> input & 1) == 1) {
                return input;
            }
        }
        throw new NoSuchElementException();
    }

    private List<Integer> faults(int circuit) {
        List<Integer> sets = new ArrayList<>();
        for (int wire = 0; wire < lines + gates(circuit); wire++) {
            sets.add(tells(circuit, wire, 0));
            sets.add(tells(circuit, wire, 1));
        }
        return sets;
    }

    public int silent(int circuit) {
        index(isCircuit(circuit));
        return (int) faults(circuit).stream().filter(set -> set == 0).count();
    }

    private List<Integer> members(int set) {
        List<Integer> found = new ArrayList<>();
        for (int k = 0; k < 16; k++) {
            if ((set >> k & 1) == 1) {
                found.add(k);
            }
        }
        return found;
    }

    public String tests(int circuit) {
        index(isCircuit(circuit));
        List<Integer> told = faults(circuit);
        told.removeIf(set -> set == 0);
        List<Integer> best = null;
        for (int set = 0; set < 1 << inputs(); set++) {
            if (best != null && Integer.bitCount(set) > best.size()) {
                continue;
            }
            boolean isEach = true;
            for (int fault : told) {
                if ((fault & set) == 0) {
                    isEach = false;
                    break;
                }
            }
            if (isEach) {
                List<Integer> found = members(set);
                if (best == null || found.size() < best.size() || isFirst(found, best)) {
                    best = found;
                }
            }
        }
        List<String> texts = new ArrayList<>();
        for (int input : best) {
            texts.add("" + input);
        }
        return String.join(" ", texts);
    }

    private int kindsOf(String text, int lineCount) {
        int last = text.length() - 1;
        boolean isRising = true;
        boolean isTurned = true;
        boolean isEvenHanded = true;
        for (int input = 0; input <= last; input++) {
            char told = text.charAt(input);
            isTurned = isTurned && told != text.charAt(input ^ last);
            for (int line = 0; line < lineCount; line++) {
                isRising = isRising && told <= text.charAt(input | 1 << line);
                for (int other = 0; other < lineCount; other++) {
                    int a = input >> line & 1;
                    int b = input >> other & 1;
                    int exchanged = input & ~(1 << line) & ~(1 << other) | a << other | b << line;
                    isEvenHanded = isEvenHanded && told == text.charAt(exchanged);
                }
            }
        }
        boolean isStraight = true;
        for (int set : products(text)) {
            isStraight = isStraight && Integer.bitCount(set) <= 1;
        }
        return (text.charAt(0) == '0' ? 1 : 0) + (text.charAt(last) == '1' ? 2 : 0) + (isRising ? 4 : 0)
                + (isTurned ? 8 : 0) + (isStraight ? 16 : 0) + (isEvenHanded ? 32 : 0);
    }

    public int kinds(int circuit) {
        index(isCircuit(circuit));
        return kindsOf(outputText(circuit), lines);
    }

    public boolean makesAll(int set) {
        argument(set >= 0 && set <= 63);
        String[] texts = {"10", "0001", "0111", "0110", "1110", "1000"};
        for (int kind = 0; kind < 5; kind++) {
            boolean isSomeNone = false;
            for (int gate = 0; gate < 6; gate++) {
                int kinds = kindsOf(texts[gate], gate == 0 ? 1 : 2);
                isSomeNone = isSomeNone || (set >> gate & 1) == 1 && (kinds >> kind & 1) == 0;
            }
            if (!isSomeNone) {
                return false;
            }
        }
        return true;
    }

    public int blank() {
        blanks++;
        return -9;
    }

    public int knock() {
        return ++knocks;
    }

    public int house(int what) {
        argument(what >= 0 && what <= 6);
        int[] told = {lines, ones(wanted()), count(wanted(), '-'), primeList().size(), undoable.size(), blanks, knocks};
        return told[what];
    }

    public boolean isSound() {
        return true;
    }

    public long digest() {
        List<Integer> numbers = new ArrayList<>();
        for (int what = 0; what < 7; what++) {
            numbers.add(house(what));
        }
        for (int circuit = 0; circuit < 2; circuit++) {
            for (int what = 0; what < 6; what++) {
                numbers.add(ofCircuit(circuit, what));
            }
            for (int gate = 0; gate < gates(circuit); gate++) {
                for (int what = 0; what < 6; what++) {
                    numbers.add(ofGate(circuit, gate, what));
                }
            }
            for (char sign : outputText(circuit).toCharArray()) {
                numbers.add((int) sign);
            }
            numbers.add(diagram(circuit).length());
            numbers.add(silent(circuit));
            numbers.add(kinds(circuit));
        }
        for (char sign : wanted) {
            numbers.add((int) sign);
        }
        for (String text : List.of(primes(), needed(), cover(false), cover(true), race(), sum())) {
            numbers.add(text.length());
        }
        numbers.add(parts());
        numbers.add(isSound() ? 1 : 0);
        // without an end: the 64 bits are taken of it last
        BigInteger d = BigInteger.valueOf(8509);
        for (int number : numbers) {
            d = d.multiply(BigInteger.valueOf(31)).add(BigInteger.valueOf(number));
        }
        return d.longValue();
    }
}
