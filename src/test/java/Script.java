import java.lang.reflect.InvocationTargetException;
import java.lang.reflect.Method;

/**
 * Runs of calls on a new Springseat, written as the document writes them: "seat(3, 2) = 0; sign(0)
 * throws IllegalStateException". A call that throws must leave all that can be asked as it was.
 */
final class Script {
    private static int wrong = 0;

    private Script() {
    }

    /** Makes the calls one behind the other, and prints those whose answer is not the one that is due. */
    static void run(String name, String... lines) {
        Springseat workshop = new Springseat();
        for (String line : lines) {
            for (String part : line.split(";")) {
                if (!part.isBlank()) {
                    check(name, workshop, part.trim());
                }
            }
        }
    }

    static void same(String what, Object got, Object due) {
        if (!String.valueOf(got).equals(String.valueOf(due))) {
            wrong++;
            System.out.println(what + " answered " + got + ", due is " + due);
        }
    }

    /** Ends the program: with 1 if any answer was not as due. */
    static void end(String name) {
        System.out.println(name + ": " + (wrong == 0 ? "all answers are as due" : wrong + " are not as due"));
        System.exit(wrong == 0 ? 0 : 1);
    }

    /**
     * The answer of a call such as "top(0, 11)", or "throws." and the exact name of the exception; it
     * is told as one "from elsewhere" if it is not thrown by the class itself.
     */
    static String answer(Object workshop, String call) {
        int bracket = call.indexOf('(');
        String inner = call.substring(bracket + 1, call.lastIndexOf(')')).trim();
        String[] told = inner.isEmpty() ? new String[0] : inner.split(",");
        Method method = methodOf(workshop, call.substring(0, bracket).trim());
        Object[] given = new Object[told.length];
        for (int i = 0; i < told.length; i++) {
            given[i] = valueOf(told[i].trim(), method.getParameterTypes()[i]);
        }
        return answer(workshop, method, given);
    }

    static String answer(Object workshop, Method method, Object... given) {
        try {
            return String.valueOf(method.invoke(workshop, given));
        } catch (InvocationTargetException e) {
            Throwable thrown = e.getCause();
            String from = thrown.getStackTrace()[0].getClassName().replaceAll("\\$.*", "");
            boolean isOwn = from.equals(workshop.getClass().getName());
            return "throws." + thrown.getClass().getSimpleName() + (isOwn ? "" : " from elsewhere");
        } catch (IllegalAccessException e) {
            throw new AssertionError(e);
        }
    }

    static Method methodOf(Object workshop, String name) {
        for (Method method : workshop.getClass().getDeclaredMethods()) {
            if (method.getName().equals(name)) {
                method.setAccessible(true);
                return method;
            }
        }
        throw new AssertionError("no method " + name);
    }

    private static void check(String name, Springseat workshop, String part) {
        boolean throwing = part.contains(") throws ");
        int split = throwing ? part.indexOf(") throws ") + 1 : part.lastIndexOf('=');
        String call = part.substring(0, split).trim();
        String due = part.substring(split + (throwing ? " throws ".length() : 1)).trim();
        String before = throwing ? Snapshot.of(workshop) : "";
        same(name + ": " + call, answer(workshop, call), throwing ? "throws." + due : due);
        if (throwing) {
            same(name + ": what is there behind " + call, Snapshot.of(workshop), before);
        }
    }

    private static Object valueOf(String told, Class<?> type) {
        if (type == boolean.class) {
            return Boolean.valueOf(told);
        }
        if (type == char.class) {
            return told.charAt(1);
        }
        return Integer.valueOf(told);
    }
}
