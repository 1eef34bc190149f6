import java.util.ArrayList;
import java.util.Arrays;
import java.util.List;

/**
 * Each call of the face with each blend of numbers in and out of range on seats in each state: where
 * several exceptions apply, the one that the document lists first is thrown, and what is refused
 * changes nothing.
 *
 * <p>Behind a number or a state stands, with a colon, the first letter of what is thrown for it:
 * I IndexOutOfBounds, A IllegalArgument, U UnsupportedOperation, S IllegalState, N NoSuchElement.
 */
public final class RefusalsTest {
    private static final String SEAT = "seat(3, 2) = 0;";
    private static final String OPEN_WEBS = SEAT + "web(0, 4) = 0;";
    private static final String WEBS = OPEN_WEBS + "sign(0) = 1;";
    private static final String OPEN_SPRINGS = WEBS + "spring(0, 60, 3) = 1;";
    private static final String SPRINGS = OPEN_SPRINGS + "sign(0) = 2;";
    private static final String OPEN_TIES = SPRINGS + "tie(0) = 2; pull(0, true, 1, 40) = 40;";
    private static final String TIES = OPEN_TIES + "sign(0) = 3;";
    private static final String OPEN_LAYER = TIES + "layer(0, 'f', 30, 5) = 3;";
    private static final String LAYER = OPEN_LAYER + "sign(0) = 4;";
    private static final String FOUR_LAYERS = LAYER + "layer(0, 'h', 30, 5) = 4; sign(0) = 5; layer(0, 'd', 30, 5) = 5;"
            + "sign(0) = 6; layer(0, 'f', 30, 5) = 6; sign(0) = 7;";
    private static final String OPEN_BUTTONS = LAYER + "buttons(0) = 4; draw(0, 11, 7) = 1;";
    private static final String BUTTONS = OPEN_BUTTONS + "sign(0) = 5;";
    private static final String OPEN_COVER = BUTTONS + "cloth(600, 7) = 0; cover(0, 0, 0) = 334;";
    private static final String COVER = OPEN_COVER + "sign(0) = 6; use(0, 700) = 24;";
    private static final String FULL_HOURS = OPEN_COVER + "use(0, 9999); use(0, 9999); use(0, 9999); use(0, 9999);"
            + "use(0, 9999); use(0, 9999); use(0, 9999); use(0, 9999); use(0, 9999); use(0, 9999); use(0, 10);";
    private static final String BODIES = "body() = 0; body() = 1; mass(0, 11, 20) = 0; mass(1, 0, 9) = 0;";
    private static final String TWELVE = "seat(6, 6) = 0; web(0, 1) = 0; sign(0) = 1; spring(0, 20, 1) = 1; sign(0) = 2;"
            + "layer(0, 'd', 60, 1) = 2; sign(0) = 3; buttons(0) = 3; draw(0, 0, 1) = 1; draw(0, 1, 1) = 2;"
            + "draw(0, 2, 1) = 3; draw(0, 3, 1) = 4; draw(0, 4, 1) = 5; draw(0, 5, 1) = 6; draw(0, 10, 1) = 7;"
            + "draw(0, 11, 1) = 8; draw(0, 12, 1) = 9; draw(0, 13, 1) = 10; draw(0, 14, 1) = 11; draw(0, 55, 1) = 12;";
    private static final String NINE_FLAWS = OPEN_COVER + "flaw(0, 340) = 1; flaw(0, 341) = 2; flaw(0, 342) = 3;"
            + "flaw(0, 343) = 4; flaw(0, 344) = 5; flaw(0, 345) = 6; flaw(0, 346) = 7; flaw(0, 347) = 8; flaw(0, 599) = 9;";

    private static final String ON_SEAT = "0 -1:I 1:I 2147483647:I";
    private static final String CELL = "0 21 -1:I 2:I 22:I 30:I -2147483648:I";
    private static final String HEIGHT = "20 99 19:A 100:A -2147483648:A";
    private static final String FIRMNESS = "1 9 0:A 10:A 2147483647:A";
    private static final String KIND = "'h' 'f' 'd' '-':A 'x':A";

    private static final int MOST_AT_ONCE = 100;

    public static void main(String[] args) {
        steps();
        change();
        pull();
        draw();
        cover();
        signAndOpen();
        whatASeatIsLike();
        bodies();
        cloths();
        useAndPound();
        lands();
        tacksAndPromises();
        added();
        Script.end("RefusalsTest");
    }

    private static void steps() {
        blend("web(%, %)", of(ON_SEAT, FIRMNESS), "I:", SEAT, "U:" + OPEN_WEBS, "U:" + WEBS, "U:" + SPRINGS, "U:" + TIES,
                "U:" + LAYER, "U:" + BUTTONS, "U:" + COVER);
        blend("spring(%, %, %)", of(ON_SEAT, HEIGHT, FIRMNESS), "I:", "U:" + SEAT, "U:" + OPEN_WEBS, WEBS,
                "U:" + OPEN_SPRINGS, "U:" + SPRINGS, "U:" + TIES, "U:" + LAYER, "U:" + BUTTONS, "U:" + COVER);
        blend("tie(%)", of(ON_SEAT), "I:", "U:" + SEAT, "U:" + OPEN_WEBS, "U:" + WEBS, "U:" + OPEN_SPRINGS, SPRINGS,
                "U:" + OPEN_TIES, "U:" + TIES, "U:" + OPEN_LAYER, "U:" + LAYER, "U:" + BUTTONS, "U:" + COVER);
        blend("layer(%, %, %, %)", of(ON_SEAT, KIND, "5 60 4:A 61:A", FIRMNESS), "I:", "U:" + SEAT, "U:" + OPEN_WEBS,
                "U:" + WEBS, "U:" + OPEN_SPRINGS, SPRINGS, "U:" + OPEN_TIES, TIES, "U:" + OPEN_LAYER, LAYER,
                "U:" + FOUR_LAYERS, "U:" + OPEN_BUTTONS, "U:" + BUTTONS, "U:" + OPEN_COVER, "U:" + COVER);
        blend("buttons(%)", of(ON_SEAT), "I:", "U:" + SEAT, "U:" + OPEN_WEBS, "U:" + WEBS, "U:" + OPEN_SPRINGS,
                "U:" + SPRINGS, "U:" + OPEN_TIES, "U:" + TIES, "U:" + OPEN_LAYER, LAYER, FOUR_LAYERS, "U:" + OPEN_BUTTONS,
                "U:" + BUTTONS, "U:" + OPEN_COVER, "U:" + COVER);
    }

    private static void change() {
        blend("change(%, %, %, %)", of(ON_SEAT, CELL, HEIGHT, FIRMNESS), "I:", "U:" + SEAT, "U:" + OPEN_WEBS, "U:" + WEBS,
                OPEN_SPRINGS, "U:" + SPRINGS, "U:" + OPEN_TIES, "U:" + TIES, "U:" + OPEN_LAYER, "U:" + OPEN_BUTTONS,
                "U:" + OPEN_COVER, "U:" + COVER);
    }

    private static void pull() {
        String height = "10 99 9:A 100:A 2147483647:A";
        String[] states = {"I:", "U:" + SEAT, "U:" + OPEN_WEBS, "U:" + WEBS, "U:" + OPEN_SPRINGS, "U:" + SPRINGS, OPEN_TIES,
            "U:" + TIES, "U:" + OPEN_LAYER, "U:" + LAYER, "U:" + OPEN_BUTTONS, "U:" + OPEN_COVER, "U:" + COVER};
        blend("pull(%, true, %, %)", of(ON_SEAT, "0 2 -1:I 3:I 6:I", height), states);
        blend("pull(%, false, %, %)", of(ON_SEAT, "0 1 -1:I 2:I 6:I", height), states);
    }

    private static void draw() {
        String depth = "1 30 0:A 31:A -1:A";
        blend("draw(%, %, %)", of(ON_SEAT, CELL, depth), "I:", "U:" + SEAT, "U:" + OPEN_WEBS, "U:" + OPEN_SPRINGS,
                "U:" + OPEN_TIES, "U:" + OPEN_LAYER, "U:" + LAYER, OPEN_BUTTONS, "U:" + BUTTONS, "U:" + OPEN_COVER,
                "U:" + COVER);
        blend("draw(%, %, %)", of(ON_SEAT, "0 55 54:S 20:S 6:I 56:I 60:I", depth), TWELVE, "U:" + TWELVE + "sign(0) = 4",
                "U:" + TWELVE + "sign(0) = 4; cloth(2000, 1) = 0; cover(0, 0, 0) = 840");
    }

    private static void cover() {
        String cloth = "cloth(600, 7) = 0;";
        String tooShort = "cloth(333, 7) = 0;";
        String flawed = "cloth(500, 7) = 0; flaw(0, 100) = 1; flaw(0, 210) = 2;";
        String[] args = of(ON_SEAT, "0 -1:I 1:I", "0 6 -1:A 7:A 2147483647:A");
        blend("cover(%, %, %)", args, "I:", "I:" + LAYER, "I:" + cloth, "U:" + cloth + SEAT, "U:" + cloth + OPEN_WEBS,
                "U:" + cloth + WEBS, "U:" + cloth + SPRINGS, "U:" + cloth + TIES, "U:" + cloth + OPEN_LAYER, cloth + LAYER,
                cloth + FOUR_LAYERS.replace("30", "5"), "U:" + cloth + OPEN_BUTTONS, cloth + BUTTONS, "U:" + OPEN_COVER,
                "U:" + COVER);
        blend("cover(%, %, %)", args, "N:" + tooShort + LAYER, "U:" + tooShort + OPEN_LAYER, "U:" + tooShort + SPRINGS,
                "N:" + tooShort + BUTTONS, "U:" + tooShort + OPEN_BUTTONS, "N:" + flawed + LAYER,
                "U:" + flawed + OPEN_LAYER, "N:" + COVER + "open(0, 4) = 2", "N:" + COVER + "open(0, 5) = 1");
    }

    private static void signAndOpen() {
        blend("sign(%)", of(ON_SEAT), "I:", "U:" + SEAT, OPEN_WEBS, "U:" + WEBS, OPEN_SPRINGS, "U:" + SPRINGS, OPEN_TIES,
                "U:" + TIES, OPEN_LAYER, "U:" + LAYER, OPEN_BUTTONS, "U:" + BUTTONS, OPEN_COVER, "U:" + COVER,
                "U:" + COVER + "open(0, 3) = 3", "U:" + COVER + "open(0, 0) = 6");
        blend("open(%, %)", of(ON_SEAT, "0 -1:A 1:A 7:A -2147483648:A"), "I:", SEAT);
        blend("open(%, %)", of(ON_SEAT, "0 1 -1:A 2:A 2147483647:A"), OPEN_WEBS, WEBS);
        blend("open(%, %)", of(ON_SEAT, "0 3 6 -1:A 7:A 10:A"), OPEN_COVER, COVER, FULL_HOURS);
    }

    private static void whatASeatIsLike() {
        for (String name : new String[] {"steps", "isClosed", "quarrels", "quote", "meanTop"}) {
            blend(name + "(%)", of(ON_SEAT), "I:", SEAT, OPEN_SPRINGS, LAYER, COVER);
        }
        for (String name : new String[] {"step", "isSigned"}) {
            blend(name + "(%, %)", of(ON_SEAT, "-1:N 0:N 1:N"), "I:", SEAT);
            blend(name + "(%, %)", of(ON_SEAT, "-1:N 0 5 6:N 2147483647:N"), OPEN_COVER, COVER);
        }
        for (String name : new String[] {"stands", "top"}) {
            blend(name + "(%, %)", of(ON_SEAT, CELL), "I:", SEAT, OPEN_WEBS, OPEN_SPRINGS, TIES, LAYER, BUTTONS, COVER);
        }
        blend("thick(%, %)", of(ON_SEAT, "-1:N 0:N 4:N"), "I:", SEAT, SPRINGS, TIES);
        blend("thick(%, %)", of(ON_SEAT, "-1:N 0 1:N 4:N"), OPEN_LAYER, LAYER, BUTTONS, COVER);
        blend("thick(%, %)", of(ON_SEAT, "-1:N 0 3 4:N -2147483648:N"), FOUR_LAYERS);
        blend("folds(%, true)", of(ON_SEAT), "I:", SEAT, LAYER, OPEN_BUTTONS, COVER);
        blend("folds(%, false)", of(ON_SEAT), "I:", SEAT, LAYER, OPEN_BUTTONS, COVER);
        blend("buttonAt(%, %)", of(ON_SEAT, CELL.replace("21 ", "21:N ").replace("0 ", "0:N ")), "I:", SEAT, LAYER);
        blend("buttonAt(%, %)", of(ON_SEAT, "11 " + CELL.replace("21 ", "21:N ").replace("0 ", "0:N ")), OPEN_BUTTONS,
                BUTTONS, COVER);
        blend("panel(%, %)", of(ON_SEAT, "0:N -1:N 3:N"), "I:", SEAT, LAYER, BUTTONS, COVER + "open(0, 5) = 1");
        blend("panel(%, %)", of(ON_SEAT, "0 2 -1:N 3:N 6:N"), OPEN_COVER, COVER);
    }

    private static void bodies() {
        String body = "0 1 -1:I 2:I 3:I";
        blend("mass(%, %, %)", of(body, "0 55 -1:I 6:I 56:I 60:I", "0 99 -1:A 100:A 2147483647:A"), "I:", BODIES,
                BODIES + COVER);
        String[] states = {"I:", "I:" + SPRINGS, "I:" + BODIES, "U:" + BODIES + SEAT, "U:" + BODIES + OPEN_WEBS,
            "U:" + BODIES + WEBS, BODIES + OPEN_SPRINGS, BODIES + TIES, BODIES + COVER};
        blend("sinks(%, %, %)", of(body, ON_SEAT, CELL), states);
        blend("pressure(%, %, %)", of(body, ON_SEAT, CELL), states);
        blend("comfort(%, %)", of(body, ON_SEAT), states);
        blend("fit(%, %, %)", of(body, body, ON_SEAT), states);
    }

    private static void cloths() {
        blend("left(%)", of("0 -1:I 1:I 4:I"), "I:", "cloth(50, 1) = 0", COVER);
        String ahead = " 0:U 333:U 100:U";
        blend("flaw(%, %)", of("0 -1:I 1:I", "0 49 -1:I 50:I 2147483647:I"), "I:", "cloth(50, 60) = 0");
        blend("flaw(%, %)", of("0 -1:I 1:I", "334 598 340:U 599:U -1:I 600:I" + ahead), NINE_FLAWS,
                NINE_FLAWS + "open(0, 0) = 6");
        blend("flaw(%, %)", of("0 -1:I 1:I", "335:S 598:S 334:U 340:U 599:U -1:I 600:I" + ahead),
                NINE_FLAWS + "flaw(0, 334) = 10");
    }

    private static void useAndPound() {
        String[] states = {"I:", "U:" + SEAT, "U:" + SPRINGS, "U:" + LAYER, "U:" + BUTTONS, OPEN_COVER, COVER,
            "U:" + COVER + "open(0, 5) = 1", "U:" + FULL_HOURS};
        blend("use(%, %)", of(ON_SEAT, "1 9999 0:A 10000:A -1:A 2147483647:A"), states);
        blend("pound(%, %)", of(ON_SEAT, "1 3000 0:A 3001:A -1:A 1431655766:A"), states);
        blend("hours(%)", of(ON_SEAT), "I:", "U:" + SEAT, "U:" + LAYER, OPEN_COVER, COVER, FULL_HOURS,
                "U:" + COVER + "open(0, 5) = 1");
        blend("holds(%)", of(ON_SEAT), "I:", "U:" + SEAT, "U:" + LAYER, OPEN_COVER, COVER, FULL_HOURS,
                "U:" + COVER + "open(0, 5) = 1");
    }

    private static void lands() {
        blend("land(%, %, %)", of("0 3 -1:I 4:I", "'h' 'f' 'd' '-' 'x':A 'H':A", "0 4 -1:A 5:A"), "", COVER);
        blend("burns(%, %)", of(ON_SEAT, "0 3 -1:I 4:I 2147483647:I"), "I:", SEAT, LAYER, COVER);
    }

    private static void tacksAndPromises() {
        String year = "1700 2100 1699:A 2101:A 0:A -2147483648:A";
        blend("tack(%, %, %)", of(ON_SEAT, "0:N -1:N 4:N", year), "I:", SEAT, TIES);
        blend("tack(%, %, %)", of(ON_SEAT, "0 1:N -1:N 4:N", year), OPEN_LAYER, COVER);
        blend("tack(%, %, %)", of(ON_SEAT, "0 3 4:N -1:N", year), FOUR_LAYERS);
        blend("promise(%, %)", of(ON_SEAT, "0 100 -1:A 101:A 2147483647:A"), "I:", SEAT, COVER);
    }

    private static void added() {
        String lines = "1 6 0:A 7:A -1:A 2147483647:A";
        String fourSeats = "seat(1, 1) = 0; seat(6, 6) = 1; seat(1, 6) = 2; seat(6, 1) = 3;";
        blend("seat(%, %)", of(lines, lines), "", SEAT, COVER, "S:" + fourSeats);
        blend("body()", of(), "", BODIES, "S:" + BODIES + "body() = 2");
        String fourCloths = "cloth(50, 1) = 0; cloth(2000, 60) = 1; cloth(51, 2) = 2; cloth(600, 7) = 3;";
        blend("cloth(%, %)", of("50 2000 49:A 2001:A -1:A", "1 60 0:A 61:A -2147483648:A"), "", COVER, "S:" + fourCloths);
        blend("closedShare()", of(), "N:", "N:" + BODIES, SEAT, COVER);
        blend("checksum()", of(), "", SEAT, COVER);
        blend("isSound()", of(), "", SEAT, COVER);
    }

    private static String[] of(String... given) {
        return given;
    }

    /** Makes the call with each blend of what is given, in each state. */
    private static void blend(String call, String[] given, String... states) {
        for (String state : states) {
            boolean isLet = state.isEmpty() || state.charAt(1) != ':';
            List<String> made = Script.calls(isLet ? state : state.substring(2));
            List<String> refused = new ArrayList<>();
            for (String blended : blends(call, given, isLet ? "" : state.substring(0, 1))) {
                String[] told = blended.split("#", -1);
                String due = firstOf(call, told[1]);
                if (due.isEmpty()) {
                    String answer = Script.answer(Script.after(made), told[0]);
                    Script.same(made + " " + told[0] + " is refused", answer.startsWith("throws."), false);
                } else if (told[1].length() == 1) {
                    // With one fault alone a call comes closest to what it must not do.
                    refuse(made, List.of(told[0] + "#" + due));
                } else {
                    refused.add(told[0] + "#" + due);
                }
            }
            for (int from = 0; from < refused.size(); from += MOST_AT_ONCE) {
                refuse(made, refused.subList(from, Math.min(refused.size(), from + MOST_AT_ONCE)));
            }
        }
    }

    /** All ways to fill a call in, each with the letters of what is to be thrown behind a #. */
    private static List<String> blends(String call, String[] given, String letters) {
        List<String> blends = List.of(call + "#" + letters);
        for (String numbers : given) {
            List<String> filled = new ArrayList<>();
            for (String blend : blends) {
                for (String number : numbers.split(" ")) {
                    String[] parts = number.split(":");
                    filled.add(blend.replaceFirst("%", parts[0]) + (parts.length > 1 ? parts[1] : ""));
                }
            }
            blends = filled;
        }
        return blends;
    }

    /** The one of the letters whose exception the face lists first, or none. */
    private static String firstOf(String call, String letters) {
        Class<?>[] listed = Script.methodOf(new Springseat(), call.substring(0, call.indexOf('('))).getExceptionTypes();
        for (Class<?> thrown : listed) {
            String letter = thrown == IllegalArgumentException.class ? "A"
                    : thrown == IllegalStateException.class ? "S" : thrown.getSimpleName().substring(0, 1);
            if (letters.contains(letter)) {
                return thrown.getSimpleName();
            }
        }
        Script.same(call + " may throw " + Arrays.toString(listed) + ", told is", letters, "");
        return "";
    }

    private static void refuse(List<String> made, List<String> refused) {
        Springseat workshop = Script.after(made);
        List<String> calls = new ArrayList<>();
        for (String one : refused) {
            String[] told = one.split("#");
            Script.same(made + " " + told[0], Script.answer(workshop, told[0]), "throws." + told[1]);
            calls.add(told[0]);
        }
        Twins.same("refused", made, calls);
    }
}
