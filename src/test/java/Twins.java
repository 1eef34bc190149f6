import java.util.ArrayList;
import java.util.List;

/**
 * Sees to it that calls have changed nothing: of two new objects, one with them and one without
 * them, each must answer like the other one, whatever it is asked or told from then on.
 *
 * <p>Each group of questions has two objects of its own, as some of them change what they ask, and
 * as nothing is promised of an object behind its 512th call.
 */
final class Twins {
    private Twins() {
    }

    /** Tells if calls that were refused changed what those ahead of them had made. */
    static void same(String name, List<String> made, List<String> refused) {
        List<String> all = new ArrayList<>(made);
        all.addAll(refused);
        alike(name + ": what is there behind " + refused, all, made);
    }

    /** Tells if two ways to come to the same state differ in what they have come to. */
    static void alike(String name, List<String> one, List<String> other) {
        for (List<String> questions : groups(sizes(other))) {
            Script.same(name + ": so many calls are promised of one object",
                    Math.max(one.size(), other.size()) + questions.size() <= Script.MOST_CALLS, true);
            Springseat first = Script.after(one);
            Springseat second = Script.after(other);
            for (String question : questions) {
                String due = Script.answer(second, question);
                String got = Script.answer(first, question);
                if (!got.equals(due)) {
                    Script.same(name + ": " + question, got, due);
                    return;
                }
            }
        }
    }

    /** Columns and rows of each seat, told as cells are: 32 is one of 3 columns and 2 rows. */
    private static List<Integer> sizes(List<String> made) {
        List<Integer> sizes = new ArrayList<>();
        for (String call : made) {
            if (call.startsWith("seat(")) {
                String[] told = call.substring(5, call.length() - 1).split(",");
                sizes.add(10 * Integer.parseInt(told[0].trim()) + Integer.parseInt(told[1].trim()));
            }
        }
        return sizes;
    }

    private static List<Integer> cells(int size) {
        List<Integer> cells = new ArrayList<>();
        for (int column = 0; column < size / 10; column++) {
            for (int row = 0; row < size % 10; row++) {
                cells.add(10 * column + row);
            }
        }
        return cells;
    }

    private static List<List<String>> groups(List<Integer> sizes) {
        List<List<String>> groups = new ArrayList<>();
        groups.add(asked(sizes.size()));
        groups.add(masses());
        groups.add(toldAnew(sizes.size()));
        groups.add(cloths());
        for (int seat = 0; seat < sizes.size(); seat++) {
            groups.add(cellsAsked(seat, cells(sizes.get(seat))));
            groups.add(workGoesOn(seat, cells(sizes.get(seat))));
            groups.add(sinkings(seat, cells(sizes.get(seat))));
        }
        return groups;
    }

    private static List<String> asked(int seats) {
        List<String> calls = new ArrayList<>(List.of("checksum()", "closedShare()", "isSound()"));
        for (int seat = 0; seat < seats; seat++) {
            for (String name : List.of("steps", "isClosed", "hours", "holds", "quote", "meanTop", "quarrels")) {
                calls.add(name + "(" + seat + ")");
            }
            calls.add("folds(" + seat + ", true)");
            calls.add("folds(" + seat + ", false)");
            for (int i = 0; i < 9; i++) {
                calls.add("step(" + seat + ", " + i + ")");
                calls.add("isSigned(" + seat + ", " + i + ")");
            }
            for (int i = 0; i < 6; i++) {
                calls.add("panel(" + seat + ", " + i + ")");
            }
            for (int i = 0; i < 4; i++) {
                calls.add("thick(" + seat + ", " + i + ")");
                calls.add("burns(" + seat + ", " + i + ")");
                calls.add("comfort(" + i % 3 + ", " + seat + ")");
                calls.add("fit(" + i % 3 + ", " + (i + 1) % 3 + ", " + seat + ")");
            }
        }
        return calls;
    }

    private static List<String> cellsAsked(int seat, List<Integer> cells) {
        List<String> calls = new ArrayList<>();
        for (int cell : cells) {
            for (String name : List.of("stands", "top", "buttonAt")) {
                calls.add(name + "(" + seat + ", " + cell + ")");
            }
            for (int body = 0; body < 3; body++) {
                calls.add("sinks(" + body + ", " + seat + ", " + cell + ")");
                calls.add("pressure(" + body + ", " + seat + ", " + cell + ")");
            }
        }
        return calls;
    }

    private static List<String> masses() {
        List<String> calls = new ArrayList<>();
        for (int body = 0; body < 3; body++) {
            for (int cell : cells(66)) {
                calls.add("mass(" + body + ", " + cell + ", 9)");
            }
        }
        return calls;
    }

    /** What is told anew answers what was told before, and what is added how many there were. */
    private static List<String> toldAnew(int seats) {
        List<String> calls = new ArrayList<>();
        for (int i = 0; i < 4; i++) {
            calls.add("land(" + i + ", '-', 4)");
        }
        for (int seat = 0; seat < seats; seat++) {
            calls.add("burns(" + seat + ", 0)");
            calls.add("promise(" + seat + ", 0)");
            calls.add("holds(" + seat + ")");
            for (int layer = 0; layer < 4; layer++) {
                calls.add("tack(" + seat + ", " + layer + ", 1700)");
            }
        }
        calls.addAll(List.of("body()", "seat(1, 1)", "cloth(50, 1)"));
        return calls;
    }

    private static List<String> cloths() {
        List<String> calls = new ArrayList<>();
        for (int cloth = 0; cloth < 4; cloth++) {
            calls.add("left(" + cloth + ")");
            for (int place : new int[] {0, 1, 30, 49, 329, 330, 331, 400, 599, 1999}) {
                calls.add("flaw(" + cloth + ", " + place + ")");
            }
        }
        return calls;
    }

    private static List<String> workGoesOn(int seat, List<Integer> cells) {
        List<String> calls = new ArrayList<>();
        for (int cell : cells) {
            calls.add("change(" + seat + ", " + cell + ", 70, 5)");
        }
        for (String call : List.of("pull(S, true, 0, 11)", "draw(S, 0, 9)", "folds(S, false)", "use(S, 700)", "sign(S)",
                "tie(S)", "pull(S, false, 0, 12)", "sign(S)", "layer(S, 'f', 33, 3)", "sign(S)", "buttons(S)",
                "draw(S, 0, 8)", "folds(S, false)", "sign(S)", "quote(S)", "cover(S, 0, 0)", "panel(S, 0)", "use(S, 800)",
                "hours(S)", "holds(S)", "thick(S, 0)", "meanTop(S)", "checksum()", "open(S, 0)", "meanTop(S)",
                "web(S, 5)", "sign(S)", "spring(S, 66, 6)", "meanTop(S)", "quote(S)")) {
            calls.add(call.replace("S", "" + seat));
        }
        return calls;
    }

    /** Sinkings under one mass in all cells tell how firm springs, webs and layers are. */
    private static List<String> sinkings(int seat, List<Integer> cells) {
        List<String> calls = new ArrayList<>(List.of("body()"));
        for (int cell : cells) {
            calls.add("mass(0, " + cell + ", 37)");
        }
        for (int cell : cells) {
            calls.add("sinks(0, " + seat + ", " + cell + ")");
        }
        return calls;
    }
}
