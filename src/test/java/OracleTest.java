import java.lang.reflect.InvocationTargetException;
import java.lang.reflect.Method;
import java.util.ArrayList;
import java.util.Arrays;
import java.util.List;
import java.util.Map;
import java.util.Random;
import java.util.TreeMap;

/** Long runs of drawn calls, each answered as by Plain, which goes by the document's words, slowly. */
public final class OracleTest {
    private static final int RUNS = 60;
    /** An object's whole use. */
    private static final int CALLS = 512;
    private static int wrong = 0;

    public static void main(String[] args) throws Exception {
        Map<String, Method> face = new TreeMap<>();
        for (Method method : Gatesquare.class.getDeclaredMethods()) {
            if (java.lang.reflect.Modifier.isPublic(method.getModifiers())) {
                face.put(method.getName(), method);
            }
        }
        int calls = 0;
        for (int run = 0; run < RUNS && wrong < 10; run++) {
            calls += goThrough(run, face);
        }
        calls += askOfTables(face);
        calls += askOfCircuits(face);
        System.out.println("OracleTest: " + calls + " calls, " + wrong + " wrong");
        if (wrong != 0) {
            System.exit(1);
        }
    }

    private static int goThrough(int run, Map<String, Method> face) throws Exception {
        Random random = new Random(7919L * run + 5);
        Gatesquare told = new Gatesquare();
        Plain plain = new Plain();
        List<String> names = new ArrayList<>(face.keySet());
        StringBuilder before = new StringBuilder();
        int calls = 0;
        for (int k = 0; k < CALLS; k++) {
            String name = drawName(random, names, k);
            Method method = face.get(name);
            Object[] arguments = drawArguments(random, method, plain);
            String got = answer(method, told, arguments);
            Method slow = Plain.class.getDeclaredMethod(name, method.getParameterTypes());
            String due = answer(slow, plain, arguments);
            String call = name + Arrays.toString(arguments);
            calls++;
            if (!got.equals(due)) {
                wrong++;
                System.out.println("run " + run + ": " + call + " answered " + got + ", due is " + due + " after" + before);
                return calls;
            }
            before.append("\n  ").append(call).append(" = ").append(got);
        }
        return calls;
    }

    /** Whole wanted tables with few, some and many places of no meaning. */
    private static int askOfTables(Map<String, Method> face) throws Exception {
        Random random = new Random(31);
        int calls = 0;
        for (int k = 0; k < 600 && wrong < 10; k++) {
            Gatesquare told = new Gatesquare();
            Plain plain = new Plain();
            int lines = k % 5 == 4 ? 3 : 4;
            both(face, told, plain, "lines", lines);
            int free = random.nextInt(4);
            int ones = 1 + random.nextInt(5);
            for (int input = 0; input < 1 << lines; input++) {
                int value = random.nextInt(4) < free ? 2 : random.nextInt(6) < ones ? 1 : 0;
                both(face, told, plain, "want", input, value);
            }
            for (String name : List.of("primes", "needed", "race", "sum", "wanted", "isSound", "digest")) {
                both(face, told, plain, name);
            }
            for (boolean isCalm : new boolean[] {false, true}) {
                both(face, told, plain, "cover", isCalm);
                for (int what = 0; what < 4; what++) {
                    both(face, told, plain, "ofCover", isCalm, what);
                }
            }
            calls += 34;
        }
        return calls;
    }

    /** Circuits of up to 12 gates with rewired ones, all asked for. */
    private static int askOfCircuits(Map<String, Method> face) throws Exception {
        Random random = new Random(47);
        int calls = 0;
        for (int k = 0; k < 400 && wrong < 10; k++) {
            Gatesquare told = new Gatesquare();
            Plain plain = new Plain();
            int lines = 1 + k % 4;
            both(face, told, plain, "lines", lines);
            int gates = 1 + random.nextInt(12);
            for (int gate = 0; gate < gates; gate++) {
                int from = random.nextInt(3) == 0 ? 0 : Math.max(0, lines + gate - 5);
                int first = from + random.nextInt(lines + gate - from);
                both(face, told, plain, "gate", 0, random.nextInt(6), first, random.nextInt(lines + gate));
            }
            both(face, told, plain, "output", 0, lines + gates - 1);
            for (int change = 0; change < 6; change++) {
                both(face, told, plain, "rewire", 0, random.nextInt(gates), random.nextInt(2), random.nextInt(lines + gates));
                both(face, told, plain, "alter", 0, random.nextInt(gates), random.nextInt(6));
            }
            for (int gate = 0; gate < gates; gate++) {
                for (int what = 0; what < 6; what++) {
                    both(face, told, plain, "ofGate", 0, gate, what);
                }
            }
            for (int what = 0; what < 6; what++) {
                both(face, told, plain, "ofCircuit", 0, what);
            }
            for (int wire = 0; wire < lines + gates; wire++) {
                both(face, told, plain, "table", 0, wire);
                both(face, told, plain, "tells", 0, wire, wire & 1);
                both(face, told, plain, "test", 0, wire, wire + 1 & 1);
            }
            for (String name : List.of("silent", "tests", "kinds", "diagram", "nodes", "bestOrder", "wantTable")) {
                both(face, told, plain, name, 0);
            }
            for (String name : List.of("primes", "sum", "parts", "isAlike", "digest", "undo", "undo", "digest")) {
                both(face, told, plain, name);
            }
            calls += 33 + gates * 10 + lines * 3;
        }
        return calls;
    }

    private static void both(Map<String, Method> face, Gatesquare told, Plain plain, String name, Object... arguments)
            throws Exception {
        Method method = face.get(name);
        String got = answer(method, told, arguments);
        String due = answer(Plain.class.getDeclaredMethod(name, method.getParameterTypes()), plain, arguments);
        if (!got.equals(due)) {
            wrong++;
            System.out.println(name + Arrays.toString(arguments) + " answered " + got + ", due is " + due
                    + "; wanted " + told.wanted() + ", diagrams " + told.diagram(0) + " and " + told.diagram(1));
        }
    }

    /** Calls that build are drawn more often, those that are slow here, or clear all, less. */
    private static String drawName(Random random, List<String> names, int k) {
        if (k == 0) {
            return "lines";
        }
        if (k % 32 == 31) {
            return "digest";
        }
        int draw = random.nextInt(100);
        if (draw < 20) {
            return "gate";
        }
        if (draw < 28) {
            return "rewire";
        }
        if (draw < 33) {
            return "output";
        }
        if (draw < 41) {
            return "want";
        }
        String name = names.get(random.nextInt(names.size()));
        boolean isRare = name.equals("lines") || name.equals("digest") || name.equals("isSound");
        return isRare && random.nextInt(6) > 0 ? "alter" : name;
    }

    private static Object[] drawArguments(Random random, Method method, Plain plain) {
        Object[] drawn = new Object[method.getParameterCount()];
        String name = method.getName();
        int wires = plain.lines + Math.max(plain.gates(0), plain.gates(1));
        for (int k = 0; k < drawn.length; k++) {
            int most = wires;
            if (method.getParameterTypes()[k] == boolean.class) {
                drawn[k] = random.nextBoolean();
                continue;
            }
            boolean isCircuit = k == 0 && drawn.length > 0 && !List.of("lines", "want", "wantKnown", "order", "house", "makesAll").contains(name);
            if (isCircuit) {
                most = 2;
            } else if (name.equals("lines")) {
                most = 5;
            } else if (name.equals("gate") && k == 1 || name.equals("alter") && k == 2 || name.startsWith("of") || name.equals("house")) {
                most = name.startsWith("of") && k == 1 && drawn.length == 3 ? 12 : 7;
            } else if (name.equals("rewire") && k == 1 || name.equals("alter") && k == 1) {
                most = Math.max(1, plain.gates((Integer) drawn[0] == 1 ? 1 : 0));
            } else if (name.equals("rewire") && k == 2 || name.startsWith("te") && k == 2) {
                most = 2;
            } else if (name.equals("want") && k == 0 || name.equals("value") && k == 2 || name.equals("input")) {
                most = 1 << plain.lines;
            } else if (name.startsWith("want")) {
                most = 4;
            } else if (name.equals("order")) {
                most = plain.lines;
            } else if (name.equals("makesAll")) {
                most = 64;
            }
            int value = random.nextInt(most);
            if (random.nextInt(60) == 0) {
                int[] odd = {-1, most, most + 1, Integer.MIN_VALUE, Integer.MAX_VALUE, 32, 64};
                value = odd[random.nextInt(odd.length)];
            }
            drawn[k] = value;
        }
        if (name.equals("order") && random.nextInt(4) > 0) {
            drawOrder(random, drawn, plain.lines);
        }
        return drawn;
    }

    private static void drawOrder(Random random, Object[] drawn, int lines) {
        List<Integer> left = new ArrayList<>();
        for (int line = 0; line < lines; line++) {
            left.add(line);
        }
        for (int k = 0; k < lines; k++) {
            drawn[k] = left.remove(random.nextInt(left.size()));
        }
    }

    private static String answer(Method method, Object on, Object[] arguments) throws Exception {
        try {
            return String.valueOf(method.invoke(on, arguments));
        } catch (InvocationTargetException e) {
            return "throws " + e.getCause().getClass().getName();
        }
    }
}
