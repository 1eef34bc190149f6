import java.util.ArrayList;
import java.util.List;

/**
 * The order of the work: behind each row of steps that there can be, signed or not, which step may
 * come next; and each such row opened to no steps, to each number of them, to all, and to more.
 */
public final class OrderTest {
    private static final String ORDER = "w(s(t?(l{1,4}(b?c?)?)?)?)?";
    private static final String LETTERS = "wstlbc";
    private static final String CLOTH = "cloth(2000, 7)";

    /** Layers of each kind, so that one taken away is missed. */
    private static final String[] LAYERS = {"'h', 30, 5", "'f', 20, 2", "'d', 15, 1", "'f', 9, 7"};

    private static final String TO_LAYER = "seat(3, 2) = 0; web(0, 4) = 0; sign(0) = 1; spring(0, 60, 3) = 1; sign(0) = 2;"
            + "layer(0, 'd', 30, 5) = 2; sign(0) = 3;";
    private static final String CLOSED = TO_LAYER + "cloth(600, 1) = 0; cover(0, 0, 0) = 330;";

    public static void main(String[] args) {
        List<String> rows = rows();
        Script.same("rows of steps", rows.size(), 36);
        for (String row : rows) {
            nextStep(row, true);
            nextStep(row, false);
            signing(row);
            opening(row, true);
            opening(row, false);
            openingToWhatIsNotThere(row);
            sound(row);
        }
        signedAsTheyWere();
        oneByOne();
        layersKeepTheirHours();
        hoursSinceClosedLast();
        cutClothIsGone();
        promiseAndLandsStay();
        crownOfTheLastClosing();
        seatsApart();
        Script.end("OrderTest");
    }

    private static List<String> rows() {
        List<String> rows = new ArrayList<>(List.of(""));
        for (int i = 0; i < rows.size(); i++) {
            for (char letter : LETTERS.toCharArray()) {
                if ((rows.get(i) + letter).matches(ORDER)) {
                    rows.add(rows.get(i) + letter);
                }
            }
        }
        return rows;
    }

    private static String callOf(int seat, char letter, int layers) {
        switch (letter) {
            case 'w': return "web(" + seat + ", 4)";
            case 's': return "spring(" + seat + ", 60, 3)";
            case 't': return "tie(" + seat + ")";
            case 'l': return "layer(" + seat + ", " + LAYERS[Math.min(layers, 3)] + ")";
            case 'b': return "buttons(" + seat + ")";
            default: return "cover(" + seat + ", 0, 3)";
        }
    }

    /** What is told of a step while it is the last one. */
    private static List<String> toldOf(int seat, char letter, int layers) {
        switch (letter) {
            case 's': return List.of("change(" + seat + ", 11, 80, 6)", "change(" + seat + ", 0, 33, 9)");
            case 't': return List.of("pull(" + seat + ", true, 1, 50)", "pull(" + seat + ", false, 0, 55)");
            case 'l': return List.of("tack(" + seat + ", " + layers + ", " + (1900 - 10 * layers) + ")");
            case 'b': return List.of("draw(" + seat + ", 0, 6)", "draw(" + seat + ", 11, 9)", "draw(" + seat + ", 20, 20)");
            default: return List.of();
        }
    }

    /** Calls that do a row of steps on a seat, the last one signed or not. */
    private static List<String> done(int seat, String row, boolean isSigned) {
        List<String> calls = new ArrayList<>();
        int layers = 0;
        for (int i = 0; i < row.length(); i++) {
            calls.add(callOf(seat, row.charAt(i), layers));
            calls.addAll(toldOf(seat, row.charAt(i), layers));
            if (isSigned || i < row.length() - 1) {
                calls.add("sign(" + seat + ")");
            }
            layers += row.charAt(i) == 'l' ? 1 : 0;
        }
        return calls;
    }

    private static List<String> workshop(List<String> calls) {
        List<String> all = new ArrayList<>(List.of("seat(3, 2)", "seat(3, 2)", CLOTH, "body()", "body()",
                "mass(0, 11, 80)", "mass(1, 0, 9)"));
        all.addAll(calls);
        return all;
    }

    private static void nextStep(String row, boolean isSigned) {
        List<String> made = workshop(done(0, row, isSigned));
        int layers = row.replaceAll("[^l]", "").length();
        for (char letter : LETTERS.toCharArray()) {
            String name = "3 to 11 " + letter + " behind " + row + (isSigned ? "" : ", not signed");
            Springseat workshop = Script.after(made);
            String call = callOf(0, letter, layers);
            String answer = Script.answer(workshop, call);
            boolean isNext = (isSigned || row.isEmpty()) && (row + letter).matches(ORDER);
            if (isNext) {
                Script.same(name + ": is let", answer.startsWith("throws."), false);
                Script.same(name + ": its number", letter == 'c' ? "" + row.length() : answer, row.length());
                Script.same(name + ": steps", workshop.steps(0), row.length() + 1);
                Script.same(name + ": its letter", workshop.step(0, row.length()), letter);
                Script.same(name + ": is signed", workshop.isSigned(0, row.length()), false);
                Script.same(name + ": is closed", workshop.isClosed(0), letter == 'c');
            } else {
                Script.same(name, answer, "throws.UnsupportedOperationException");
                Twins.same(name, made, List.of(call));
            }
        }
    }

    private static void signing(String row) {
        String name = "12 sign behind " + row;
        List<String> made = workshop(done(0, row, true));
        Script.same(name, Script.answer(Script.after(made), "sign(0)"), "throws.UnsupportedOperationException");
        Twins.same(name, made, List.of("sign(0)"));
        if (row.isEmpty()) {
            return;
        }
        Springseat workshop = Script.after(workshop(done(0, row, false)));
        for (int step = 0; step < row.length(); step++) {
            Script.same(name + ": letter of step " + step, workshop.step(0, step), row.charAt(step));
            Script.same(name + ": step " + step + " is signed", workshop.isSigned(0, step), step < row.length() - 1);
        }
        Script.same(name + ": the last one", workshop.sign(0), row.length());
        Script.same(name + ": the last one is signed", workshop.isSigned(0, row.length() - 1), true);
    }

    /** An opened seat is like one on which only the steps left were ever done, but that its cloth is cut. */
    private static void opening(String row, boolean isSigned) {
        for (int left = 0; left <= row.length(); left++) {
            String name = "13 open " + row + (isSigned ? "" : ", not signed,") + " to " + left;
            List<String> made = workshop(done(0, row, isSigned));
            Springseat workshop = Script.after(made);
            Script.same(name, workshop.open(0, left), row.length() - left);
            Script.same(name + ": steps", workshop.steps(0), left);
            Script.same(name + ": is closed", workshop.isClosed(0), row.substring(0, left).endsWith("c"));
            made.add("open(0, " + left + ")");
            List<String> others = done(0, row.substring(0, left), isSigned || left < row.length());
            if (row.endsWith("c") && left < row.length()) {
                // The other seat cuts the cloth alike, and all its steps are taken away.
                others.addAll(done(1, row, isSigned));
                others.add("open(1, 0)");
            }
            Twins.alike(name, made, workshop(others));
        }
    }

    private static void openingToWhatIsNotThere(String row) {
        List<String> made = workshop(done(0, row, true));
        Springseat workshop = Script.after(made);
        List<String> refused = new ArrayList<>();
        for (int left : new int[] {-1, row.length() + 1, row.length() + 2, 10, Integer.MIN_VALUE, Integer.MAX_VALUE}) {
            String call = "open(0, " + left + ")";
            Script.same("13 " + call + " of " + row, Script.answer(workshop, call), "throws.IllegalArgumentException");
            refused.add(call);
        }
        Twins.same("13 open of " + row, made, refused);
    }

    private static void sound(String row) {
        Script.same("46 isSound with " + row, Script.after(workshop(done(0, row, true))).isSound(), true);
        Script.same("46 isSound with " + row + ", not signed", Script.after(workshop(done(0, row, false))).isSound(), true);
    }

    private static void signedAsTheyWere() {
        Script.run("13 the last step left, not signed, stays so", "seat(3, 2) = 0; web(0, 4) = 0; open(0, 1) = 0",
                "isSigned(0, 0) = false; spring(0, 60, 3)" + Script.NOT_NOW, "sign(0) = 1; spring(0, 60, 3) = 1");
        Script.run("13 a step left, signed, is not to be signed again", CLOSED, "open(0, 3) = 1; isSigned(0, 2) = true",
                "sign(0)" + Script.NOT_NOW, "buttons(0) = 3; isSigned(0, 3) = false; sign(0) = 4");
        Script.run("13 a step done anew is not signed as the one taken away was", CLOSED,
                "sign(0) = 4; open(0, 2) = 2; layer(0, 'h', 9, 9) = 2; isSigned(0, 2) = false; cover(0, 0, 0)" + Script.NOT_NOW,
                "buttons(0)" + Script.NOT_NOW);
        Script.run("13 springs left, signed, can't be changed", CLOSED, "open(0, 2) = 2; change(0, 0, 50, 5)" + Script.NOT_NOW);
        Script.run("13 springs left, not signed, can be changed", "seat(3, 2) = 0; web(0, 4) = 0; sign(0) = 1",
                "spring(0, 60, 3) = 1; open(0, 2) = 0; change(0, 0, 50, 5) = 60");
    }

    private static void oneByOne() {
        Script.run("13 opened one by one", CLOSED, "open(0, 3) = 1; open(0, 2) = 1; open(0, 1) = 1; open(0, 0) = 1",
                "open(0, 0) = 0; open(0, 1)" + Script.WRONG, "steps(0) = 0; web(0, 4) = 0");
        Script.run("13 opened to as many as there are, again and again", CLOSED,
                "open(0, 4) = 0; open(0, 4) = 0; isClosed(0) = true; hours(0) = 0; panel(0, 2) = 220; quote(0) = 390");
        Script.run("13 steps in all, nine at most", TO_LAYER, "layer(0, 'd', 30, 5) = 3; sign(0) = 4",
                "layer(0, 'd', 30, 5) = 4; sign(0) = 5; layer(0, 'd', 30, 5) = 5; sign(0) = 6; open(0, 2) = 4",
                "tie(0) = 2; sign(0) = 3; layer(0, 'd', 30, 5) = 3; sign(0) = 4; layer(0, 'd', 30, 5) = 4; sign(0) = 5",
                "layer(0, 'd', 30, 5) = 5; sign(0) = 6; layer(0, 'd', 30, 5) = 6; sign(0) = 7; buttons(0) = 7",
                "sign(0) = 8; cloth(2000, 1) = 0; cover(0, 0, 0) = 600; sign(0) = 9; steps(0) = 9; open(0, 9) = 0",
                "open(0, 10)" + Script.WRONG, "open(0, 0) = 9");
    }

    private static void layersKeepTheirHours() {
        Script.run("13 a layer left keeps its hours and its tack", CLOSED,
                "tack(0, 0, 1800) = 0; use(0, 500) = 42; thick(0, 0) = 23; open(0, 3) = 1; thick(0, 0) = 23",
                "tack(0, 0, 1801) = 1800; cloth(600, 1) = 1; cover(0, 1, 0) = 309; use(0, 500) = 18; thick(0, 0) = 20");
        Script.run("13 a layer laid anew has none", CLOSED,
                "tack(0, 0, 1800) = 0; use(0, 500) = 42; open(0, 2) = 2; layer(0, 'd', 30, 5) = 2; thick(0, 0) = 30",
                "tack(0, 0, 1801) = 0; sign(0) = 3; cloth(600, 1) = 1; cover(0, 1, 0) = 330; use(0, 500) = 42");
        Script.run("13 a layer above one with hours has its own", CLOSED,
                "use(0, 500) = 42; open(0, 3) = 1; layer(0, 'd', 30, 5) = 3; sign(0) = 4; cloth(1000, 1) = 1",
                "cover(0, 1, 0) = 399; use(0, 500) = 60; thick(0, 0) = 20; thick(0, 1) = 23; hours(0) = 500");
    }

    private static void hoursSinceClosedLast() {
        Script.run("35 hours begin anew as the seat is closed again", CLOSED,
                "use(0, 9999) = 84; hours(0) = 9999; open(0, 3) = 1; hours(0)" + Script.NOT_NOW, "use(0, 1)" + Script.NOT_NOW,
                "cloth(600, 1) = 1; cover(0, 1, 0) = 288; hours(0) = 0; pound(0, 1) = 0; hours(0) = 3");
    }

    private static void cutClothIsGone() {
        Script.run("11, 13 what is cut is gone, also when the cover is opened", CLOSED,
                "left(0) = 270; open(0, 3) = 1; left(0) = 270; cover(0, 0, 0)" + Script.NONE, "left(0) = 270",
                "flaw(0, 329)" + Script.NOT_NOW, "flaw(0, 330) = 1; isSound() = true");
        Script.run("11, 13 the next cover is cut behind the one that was opened", TO_LAYER,
                "cloth(660, 1) = 0; cover(0, 0, 0) = 330; open(0, 3) = 1; cover(0, 0, 0) = 660; panel(0, 0) = 330",
                "panel(0, 2) = 550; left(0) = 0; isSound() = true; quote(0) = 390");
        Script.run("42, 13 panels of a cover taken away are not in the quote", CLOSED,
                "quote(0) = 390; open(0, 3) = 1; quote(0) = 60");
    }

    private static void promiseAndLandsStay() {
        Script.run("13, 36, 40 what no step brought stays", CLOSED,
                "promise(0, 7) = 20; land(1, 'd', 0) = 4; open(0, 0) = 4; promise(0, 8) = 7; land(1, '-', 4) = 0");
    }

    private static void crownOfTheLastClosing() {
        Script.run("41 the crown is kept as the seat is closed, with what settled before", CLOSED,
                "promise(0, 0) = 20; use(0, 500) = 42; holds(0) = false; open(0, 3) = 1; cloth(600, 1) = 1",
                "cover(0, 1, 0) = 309; holds(0) = true; use(0, 500) = 18; holds(0) = false; promise(0, 3) = 0",
                "holds(0) = false; promise(0, 4) = 3; holds(0) = true");
    }

    private static void seatsApart() {
        Script.run("13 other seats stay as they are", CLOSED,
                "seat(1, 1) = 1; web(1, 4) = 0; sign(1) = 1; spring(1, 50, 3) = 1; open(0, 0) = 4; steps(1) = 2",
                "stands(1, 0) = 50; open(1, 1) = 1; steps(0) = 0; steps(1) = 1; stands(1, 0) = 0");
    }
}
