import java.util.ArrayList;
import java.util.List;
import java.util.function.IntUnaryOperator;

/** The numbers that a call takes: those that the document lets, and those next to them and far off. */
final class Bounds {
    private static final int MOST_TOLD = 400;

    private Bounds() {
    }

    /**
     * Each number from the least to the greatest one is let, told by # in calls and answers; the ones
     * next to these are not, nor those far off.
     */
    static void range(String name, String setup, String calls, int least, int most, String refusal) {
        range(name, setup, calls, least, most, refusal, number -> number);
    }

    /** As above, with @ in calls and answers for what is due of the number. */
    static void range(String name, String setup, String calls, int least, int most, String refusal,
            IntUnaryOperator due) {
        let(name, setup, calls, least, most, due);
        refused(name, setup, calls.substring(0, calls.indexOf(')') + 1), least, most, refusal);
    }

    static void let(String name, String setup, String calls, int least, int most, IntUnaryOperator due) {
        for (int number : inside(least, most)) {
            Script.run(name + " of " + number, setup, filled(calls, number, due.applyAsInt(number)));
        }
    }

    static void refused(String name, String setup, String call, int least, int most, String refusal) {
        refused(name, setup, call, outside(least, most), refusal);
    }

    private static String filled(String calls, int number, int due) {
        return calls.replace("#", "" + number).replace("@", "" + due);
    }

    /** Numbers from 0 to the count less 1 are let, told by # in the call; others are not. */
    static void indices(String name, String setup, String call, int count, String refusal) {
        for (int number = 0; number < count; number++) {
            List<String> made = Script.calls(setup);
            String answer = Script.answer(Script.after(made), call.replace("#", "" + number));
            Script.same(name + ": " + call + " of " + number + " is refused", answer.equals(thrown(refusal)), false);
        }
        refused(name, setup, call, 0, count - 1, refusal);
    }

    /** Cells of so many columns and rows are let, told by # in the call; others are not. */
    static void cells(String name, String setup, String call, int columns, int rows) {
        List<String> made = Script.calls(setup);
        for (int cell = -21; cell <= 121; cell++) {
            boolean isOne = cell >= 0 && cell / 10 < columns && cell % 10 < rows;
            String answer = Script.answer(Script.after(made), call.replace("#", "" + cell));
            Script.same(name + ": " + call + " of " + cell + " is let",
                    !answer.equals("throws.IndexOutOfBoundsException"), isOne);
        }
        refused(name, setup, call, List.of(-10, -1, rows, 10 * columns, 10 * columns - 1, 10 * columns + rows - 1,
                10 * (columns - 1) + rows, Integer.MIN_VALUE, Integer.MAX_VALUE, 1 << 8, 1 << 16), Script.NO_INDEX);
    }

    private static void refused(String name, String setup, String call, List<Integer> numbers, String refusal) {
        List<String> made = Script.calls(setup);
        List<String> refused = new ArrayList<>();
        Springseat workshop = Script.after(made);
        for (int number : numbers) {
            String filled = filled(call, number, 0);
            Script.same(name + ": " + filled, Script.answer(workshop, filled), thrown(refusal));
            refused.add(filled);
        }
        Twins.same(name, made, refused);
    }

    private static String thrown(String refusal) {
        return refusal.trim().replace("throws ", "throws.").replace(";", "");
    }

    /** Of a long range some numbers stand for all, always with those at its ends. */
    private static List<Integer> inside(int least, int most) {
        List<Integer> numbers = new ArrayList<>();
        for (int number = least; number < most - 1; number += 1 + (most - least) / MOST_TOLD) {
            numbers.add(number);
        }
        if (most > least) {
            numbers.add(most - 1);
        }
        numbers.add(most);
        return numbers;
    }

    /** Numbers that a call must not take for one inside, also if it cut them to fewer bits or tripled them. */
    private static List<Integer> outside(int least, int most) {
        List<Integer> numbers = new ArrayList<>();
        for (int number : new int[] {least - 1, most + 1, -least - 1, -most - 1, Integer.MIN_VALUE, Integer.MIN_VALUE + least,
            Integer.MAX_VALUE, least + (1 << 8), least + (1 << 16), 1431655766, -1431655765}) {
            if ((number < least || number > most) && !numbers.contains(number)) {
                numbers.add(number);
            }
        }
        return numbers;
    }
}
