import java.util.ArrayList;
import java.util.List;
import java.util.NoSuchElementException;
import java.util.function.Consumer;
import java.util.function.Supplier;

/** What the tests of the edges share: sentences of the document, answers that are due, calls that are refused. */
final class Check {
    static final Class<?> INDEX = IndexOutOfBoundsException.class;
    static final Class<?> ARGUMENT = IllegalArgumentException.class;
    static final Class<?> STATE = IllegalStateException.class;
    static final Class<?> ELEMENT = NoSuchElementException.class;
    static final int LEAST = Integer.MIN_VALUE;
    static final int MOST = Integer.MAX_VALUE;
    /** The description, where a promise is asked for. */
    static final int DESCRIPTION = 0;
    /** A sentence that a test has taken, with the promise in which it stands. */
    record Quote(int promise, String words) {
    }

    static final List<Quote> quotes = new ArrayList<>();
    static int asked = 0;
    static int wrong = 0;
    /** The sentences that are tested now: those that were told one right after the other. */
    private static final List<Quote> now = new ArrayList<>();
    private static boolean isAnswered = false;

    private Check() {
    }

    /** Each test by itself: one that is stopped by the program does not hide those behind it. */
    static void each(Runnable... tests) {
        for (Runnable test : tests) {
            now.clear();
            try {
                test.run();
            } catch (RuntimeException | StackOverflowError e) {
                complain("is stopped by " + e, e);
            }
        }
    }

    /** From here on it is this sentence that is tested, with another one that is told right behind it. */
    static void sentence(int promise, String words) {
        if (isAnswered) {
            now.clear();
        }
        isAnswered = false;
        Quote quote = new Quote(promise, words);
        now.add(quote);
        quotes.add(quote);
    }

    static void due(Object got, Object due) {
        asked++;
        isAnswered = true;
        if (!due.equals(got)) {
            complain("answered " + got + ", due is " + due, new Throwable());
        }
    }

    /** The answers to a question with the numbers 0, 1, 2 and so on, with a blank between two. */
    static void dueEach(java.util.function.IntUnaryOperator question, String due) {
        StringBuilder got = new StringBuilder();
        for (int k = 0; k < due.split(" ").length; k++) {
            got.append(k == 0 ? "" : " ").append(question.applyAsInt(k));
        }
        due(got.toString(), due);
    }

    /**
     * The call throws just this, and leaves a square as its twin is that was never asked: what it tells, and what
     * undo() brings back. So it is with nothing to undo, with some, and with all that can be.
     */
    static void refused(Class<?> kind, Supplier<Gatesquare> maker, Consumer<Gatesquare> call) {
        for (int undoable : new int[] {8, 3, 0}) {
            Gatesquare asked = withUndoable(maker.get(), undoable);
            Gatesquare twin = withUndoable(maker.get(), undoable);
            due(thrown(asked, call), kind);
            dueAlikeToTheEnd(asked, twin);
        }
    }

    static void dueAlikeToTheEnd(Gatesquare one, Gatesquare other) {
        due(picture(one), picture(other));
        while (other.house(4) > 0 && one.house(4) > 0) {
            due(one.undo(), other.undo());
            due(picture(one), picture(other));
        }
    }

    static Class<?> thrown(Gatesquare x, Consumer<Gatesquare> call) {
        try {
            call.accept(x);
        } catch (RuntimeException e) {
            return e.getClass();
        }
        return Void.class;
    }

    /** What can be told of a square in few calls. */
    static String picture(Gatesquare x) {
        return x.digest() + " " + x.house(4) + " " + x.wanted() + " " + x.diagram(0) + " " + x.diagram(1);
    }

    /** Forgets the first calls that could be undone, till not more than so many can: by calls, each undone again. */
    private static Gatesquare withUndoable(Gatesquare x, int undoable) {
        for (int k = undoable; k < 8; k++) {
            x.want(0, 0);
        }
        for (int k = undoable; k < 8; k++) {
            x.undo();
        }
        return x;
    }

    /** Just outside, far outside, and what would be inside if a number lost its higher digits or its sign. */
    static int[] outside(int first, int last) {
        int[] drawn = {first - 1, last + 1, LEAST, MOST, LEAST + first, LEAST + last, MOST - last, ~first, ~last, -last,
            first - 16, first + 16, first - 32, first + 32, last - 32, last + 32, first + 64, last - 64, first + 256,
            last - 256, first + 65536, last - 65536};
        return java.util.Arrays.stream(drawn).filter(k -> k < first || k > last).distinct().toArray();
    }

    private static void complain(String what, Throwable where) {
        wrong++;
        String place = "";
        for (StackTraceElement call : where.getStackTrace()) {
            boolean isTest = !call.getClassName().equals("Check") && !call.getClassName().startsWith("Gatesquare");
            if (isTest && call.getModuleName() == null && place.isEmpty()) {
                place = call.getFileName() + ":" + call.getLineNumber();
            }
        }
        StringBuilder sentences = new StringBuilder();
        for (Quote quote : now) {
            sentences.append(", promise ").append(quote.promise()).append(" \"").append(quote.words()).append('"');
        }
        System.out.println(place + sentences + ": " + what);
    }
}
