import java.lang.reflect.InvocationTargetException;
import java.lang.reflect.Method;
import java.util.ArrayList;
import java.util.HashMap;
import java.util.List;
import java.util.Map;

/**
 * Runs of calls on a new Springseat, written as the document writes them: "seat(3, 2) = 0; sign(0)
 * throws IllegalStateException"; one without an answer may answer anything. A call that throws must
 * leave all that can be asked as it was.
 */
final class Script {
    static final String NO_INDEX = " throws IndexOutOfBoundsException;";
    static final String WRONG = " throws IllegalArgumentException;";
    static final String NOT_NOW = " throws UnsupportedOperationException;";
    static final String FULL = " throws IllegalStateException;";
    static final String NONE = " throws NoSuchElementException;";

    static final int MOST_CALLS = 512;

    private static final String THROWS = " throws ";
    private static final Map<String, Method> METHODS = new HashMap<>();
    private static final Map<String, Object[]> GIVEN = new HashMap<>();

    private static int runs = 0;
    private static int wrong = 0;

    private Script() {
    }

    /** Makes the calls one behind the other, and prints those whose answer is not the one that is due. */
    static void run(String name, String... lines) {
        runs++;
        Springseat workshop = new Springseat();
        List<String> made = new ArrayList<>();
        List<String> parts = partsOf(lines);
        same(name + ": so many calls are promised of one object", parts.size() <= MOST_CALLS, true);
        for (String part : parts) {
            if (part.contains(")" + THROWS)) {
                String call = part.substring(0, part.indexOf(")" + THROWS) + 1);
                String due = part.substring(call.length() + THROWS.length()).trim();
                same(name + ": " + call, answer(workshop, call), "throws." + due);
                Twins.same(name, made, List.of(call));
            } else {
                String call = callOf(part);
                String got = answer(workshop, call);
                boolean isAny = call.equals(part) && !got.startsWith("throws.");
                same(name + ": " + call, got, isAny ? got : part.substring(part.lastIndexOf('=') + 1).trim());
                made.add(call);
            }
        }
    }

    /** The calls of lines without one that throws. */
    static List<String> calls(String... lines) {
        List<String> calls = new ArrayList<>();
        for (String part : partsOf(lines)) {
            calls.add(callOf(part));
        }
        return calls;
    }

    private static List<String> partsOf(String... lines) {
        List<String> parts = new ArrayList<>();
        for (String line : lines) {
            for (String part : line.split(";")) {
                if (!part.isBlank()) {
                    parts.add(part.trim());
                }
            }
        }
        return parts;
    }

    private static String callOf(String part) {
        return part.contains("=") ? part.substring(0, part.lastIndexOf('=')).trim() : part;
    }

    static void same(String what, Object got, Object due) {
        if (!String.valueOf(got).equals(String.valueOf(due))) {
            wrong++;
            System.out.println(what + " answered " + got + ", due is " + due);
        }
    }

    /** Ends the program: with 1 if any answer was not as due. */
    static void end(String name) {
        System.out.println(name + ": " + (wrong == 0 ? "all answers are as due" : wrong + " are not as due")
                + (runs == 0 ? "" : ", runs: " + runs));
        System.exit(wrong == 0 ? 0 : 1);
    }

    /** A new Springseat on which calls were made. */
    static Springseat after(List<String> calls) {
        Springseat workshop = new Springseat();
        for (String call : calls) {
            answer(workshop, call);
        }
        return workshop;
    }

    /**
     * The answer of a call such as "top(0, 11)", or "throws." and the exact name of the exception; it
     * is told as one "from elsewhere" if it is not thrown by the class itself.
     */
    static String answer(Object workshop, String call) {
        Object[] given = GIVEN.computeIfAbsent(call, Script::givenIn);
        return answer(workshop, methodOf(workshop, call.substring(0, call.indexOf('(')).trim()), given);
    }

    private static String answer(Object workshop, Method method, Object... given) {
        try {
            return String.valueOf(method.invoke(workshop, given));
        } catch (InvocationTargetException e) {
            Throwable thrown = e.getCause();
            String from = thrown.getStackTrace()[0].getClassName().replaceAll("\\$.*", "");
            boolean isOwn = from.equals(workshop.getClass().getName());
            return "throws." + thrown.getClass().getSimpleName() + (isOwn ? "" : " from elsewhere");
        } catch (IllegalAccessException e) {
            throw new AssertionError(e);
        }
    }

    static Method methodOf(Object workshop, String name) {
        return METHODS.computeIfAbsent(workshop.getClass().getName() + '.' + name, key -> {
            for (Method method : workshop.getClass().getDeclaredMethods()) {
                if (method.getName().equals(name)) {
                    method.setAccessible(true);
                    return method;
                }
            }
            throw new AssertionError("no method " + name);
        });
    }

    private static Object[] givenIn(String call) {
        String inner = call.substring(call.indexOf('(') + 1, call.lastIndexOf(')')).trim();
        String[] told = inner.isEmpty() ? new String[0] : inner.split(",");
        Object[] given = new Object[told.length];
        for (int i = 0; i < told.length; i++) {
            given[i] = valueOf(told[i].trim());
        }
        return given;
    }

    private static Object valueOf(String told) {
        if (told.startsWith("'")) {
            return told.charAt(1);
        }
        if (told.equals("true") || told.equals("false")) {
            return Boolean.valueOf(told);
        }
        return Integer.valueOf(told);
    }
}
