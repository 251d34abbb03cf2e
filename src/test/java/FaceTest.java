import java.lang.reflect.Constructor;
import java.lang.reflect.Field;
import java.lang.reflect.Member;
import java.lang.reflect.Method;
import java.lang.reflect.Modifier;
import java.util.Arrays;
import java.util.Set;
import java.util.TreeSet;
import java.util.stream.Collectors;

/** The public face is that of the document, with nothing beside it (rule 1 of LANGUAGE.md). */
public final class FaceTest {
    private static final String INDEX = " IndexOutOfBoundsException";
    private static final String ARGUMENT = " IllegalArgumentException";
    private static final String STATE = " IllegalStateException";
    private static final String ELEMENT = " NoSuchElementException";
    private static int wrong = 0;

    public static void main(String[] args) {
        face();
        inside();
        System.out.println("FaceTest: " + wrong + " wrong");
        if (wrong != 0) {
            System.exit(1);
        }
    }

    private static void check(boolean isRight, String what) {
        if (!isRight) {
            wrong++;
            System.out.println("FaceTest: " + what);
        }
    }

    private static void face() {
        Set<String> due = new TreeSet<>(Set.of(
                "int lines(int)" + ARGUMENT,
                "int gate(int,int,int,int)" + INDEX + ARGUMENT + STATE,
                "int ungate(int)" + INDEX + STATE,
                "int rewire(int,int,int,int)" + INDEX + ARGUMENT + STATE,
                "int alter(int,int,int)" + INDEX + ARGUMENT,
                "int output(int,int)" + INDEX,
                "int value(int,int,int)" + INDEX,
                "String table(int,int)" + INDEX,
                "int ofGate(int,int,int)" + INDEX + ARGUMENT,
                "int ofCircuit(int,int)" + INDEX + ARGUMENT,
                "int want(int,int)" + INDEX + ARGUMENT,
                "int wantTable(int)" + INDEX,
                "int wantKnown(int)" + ARGUMENT,
                "String wanted()",
                "String primes()",
                "String needed()",
                "String cover(boolean)",
                "int ofCover(boolean,int)" + ARGUMENT,
                "String race()",
                "String sum()",
                "int order(int,int,int,int)" + ARGUMENT,
                "String diagram(int)" + INDEX,
                "int nodes(int)" + INDEX,
                "String bestOrder(int)" + INDEX,
                "int input(int,int)" + INDEX + ELEMENT,
                "boolean isAlike()",
                "int parts()",
                "int tells(int,int,int)" + INDEX + ARGUMENT,
                "int test(int,int,int)" + INDEX + ARGUMENT + ELEMENT,
                "int silent(int)" + INDEX,
                "String tests(int)" + INDEX,
                "int kinds(int)" + INDEX,
                "boolean makesAll(int)" + ARGUMENT,
                "int undo()" + STATE,
                "int blank()",
                "int knock()",
                "int house(int)" + ARGUMENT,
                "boolean isSound()",
                "long digest()"));
        Set<String> got = new TreeSet<>();
        Set<String> names = new TreeSet<>();
        for (Method method : Gatesquare.class.getDeclaredMethods()) {
            if (Modifier.isPublic(method.getModifiers())) {
                got.add(told(method));
                names.add(method.getName());
            }
        }
        check(got.equals(due), "the face is " + got);
        Constructor<?>[] constructors = Gatesquare.class.getDeclaredConstructors();
        check(constructors.length == 1 && Modifier.isPublic(constructors[0].getModifiers())
                && constructors[0].getParameterCount() == 0, "the constructor");
        check(Modifier.isFinal(Gatesquare.class.getModifiers()), "the class is not final");
        for (Method method : Gatesquare.class.getDeclaredMethods()) {
            check(isHidden(method) != names.contains(method.getName()), "not private, or with a public name: " + method);
        }
        for (Field field : Gatesquare.class.getDeclaredFields()) {
            check(isHidden(field), "not private: " + field);
        }
    }

    private static void inside() {
        Set<String> names = Arrays.stream(Gatesquare.class.getDeclaredMethods())
                .filter(method -> Modifier.isPublic(method.getModifiers())).map(Method::getName).collect(Collectors.toSet());
        for (Class<?> each : Gatesquare.class.getDeclaredClasses()) {
            int modifiers = each.getModifiers();
            check(Modifier.isStatic(modifiers), "not static: " + each);
            check(!Modifier.isPublic(modifiers) && !Modifier.isProtected(modifiers), "to be seen: " + each);
            for (Method method : each.getDeclaredMethods()) {
                check(!names.contains(method.getName()), "with a public name: " + method);
            }
        }
    }

    private static boolean isHidden(Member member) {
        return Modifier.isPrivate(member.getModifiers());
    }

    private static String told(Method method) {
        String parameters = Arrays.stream(method.getParameterTypes()).map(Class::getSimpleName).collect(Collectors.joining(","));
        String thrown = Arrays.stream(method.getExceptionTypes()).map(kind -> " " + kind.getSimpleName()).collect(Collectors.joining());
        return method.getReturnType().getSimpleName() + " " + method.getName() + "(" + parameters + ")" + thrown;
    }
}
