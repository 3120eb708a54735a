import java.lang.reflect.InvocationTargetException;
import java.lang.reflect.Method;

/** Runs of calls on new objects, written as the document writes its examples: "write(65) = 1; paper() = -3". */
final class Run {
    /** What an object answers after so many calls is free. */
    private static final int MOST_CALLS = 512;
    private static int checks = 0;
    private static int wrong = 0;

    private final String title;
    private final PointingNotes notes = new PointingNotes();
    private int calls = 0;

    private Run(String title) {
        this.title = title;
    }

    /** A run on a new object. */
    static Run fresh(String title) {
        return new Run(title);
    }

    /** A run on a new object that has read this text as its paper. */
    static Run on(String title, String text) {
        Run run = new Run(title).text(text);
        run.counted(1);
        run.check("paper() of " + text, run.notes.paper() >= 0 ? 1 : 0, 1);
        return run;
    }

    PointingNotes notes() {
        return notes;
    }

    /** Empties the text and writes another one. */
    Run text(String text) {
        counted(1 + text.length());
        notes.wipe();
        for (int i = 0; i < text.length(); i++) check("write of sign " + i + " of " + text, notes.write(text.charAt(i)), i + 1);
        return this;
    }

    /** Makes the calls one after the other and compares every answer with the one behind it. */
    Run due(String calls) {
        for (String part : calls.split(";")) {
            String call = part.strip();
            if (call.isEmpty()) continue;
            int sign = call.lastIndexOf('=');
            check(call.substring(0, sign).strip(), answer(call.substring(0, sign).strip()), number(call.substring(sign + 1)));
        }
        return this;
    }

    /** Compares the whole printed paper, its length and what stands behind its end. */
    Run prints(int how, String text) {
        counted(text.length() + 2);
        check("print(" + how + ", -1)", notes.print(how, -1), text.length());
        StringBuilder got = new StringBuilder();
        for (int i = 0; i < text.length(); i++) got.append((char) notes.print(how, i));
        if (!got.toString().equals(text)) tell("print(" + how + ", ..)", got.toString(), text);
        checks++;
        check("print(" + how + ", " + text.length() + ")", notes.print(how, text.length()), PointingNotes.NONE);
        return this;
    }

    private void counted(int more) {
        if (calls <= MOST_CALLS && calls + more > MOST_CALLS) tell("the test itself", "over " + MOST_CALLS + " calls", "fewer");
        calls += more;
    }

    void check(String call, long got, long want) {
        checks++;
        if (got != want) tell(call, Long.toString(got), Long.toString(want));
    }

    private void tell(String call, String got, String want) {
        wrong++;
        System.out.println(title + ": " + call + " answered " + got + ", due is " + want);
    }

    /** The answer to a call that is written as in due(). */
    long answer(String call) {
        counted(1);
        int open = call.indexOf('(');
        String inside = call.substring(open + 1, call.lastIndexOf(')')).strip();
        return invoke(notes, call.substring(0, open).strip(), inside.isEmpty() ? new String[0] : inside.split(","));
    }

    /** Calls a method by its name on any object that has the face of the class. */
    static long invoke(Object object, String name, String... texts) {
        try {
            Method method = methodNamed(object.getClass(), name, texts.length);
            Object[] arguments = new Object[texts.length];
            for (int i = 0; i < texts.length; i++) arguments[i] = argument(method.getParameterTypes()[i], texts[i].strip());
            return ((Number) method.invoke(object, arguments)).longValue();
        } catch (InvocationTargetException e) {
            throw new IllegalStateException(name + " threw", e.getCause());
        } catch (ReflectiveOperationException e) {
            throw new IllegalStateException(name + " cannot be called", e);
        }
    }

    private static Method methodNamed(Class<?> type, String name, int parameters) throws NoSuchMethodException {
        for (Method method : type.getDeclaredMethods()) {
            if (method.getName().equals(name) && method.getParameterCount() == parameters) return method;
        }
        throw new NoSuchMethodException(name);
    }

    private static Object argument(Class<?> type, String text) {
        if (type == boolean.class) return Boolean.valueOf(text);
        if (type == long.class) return number(text);
        return (int) number(text);
    }

    private static long number(String text) {
        String digits = text.strip();
        return Long.parseLong(digits.endsWith("L") ? digits.substring(0, digits.length() - 1) : digits);
    }

    /** A check that is no call on an object. */
    static void that(String what, boolean holds) {
        checks++;
        if (holds) return;
        wrong++;
        System.out.println(what + " does not hold");
    }

    /** Ends a test: exit code 1 if an answer was wrong or none was looked at. */
    static void end(String test) {
        System.out.println(test + ": " + checks + " answers looked at, " + wrong + " wrong");
        if (wrong != 0 || checks == 0) System.exit(1);
    }
}
