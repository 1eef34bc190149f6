/**
 * For each number that a call takes, the least and the greatest one that the document lets and those
 * between them, and that the ones next to these are refused, as are those far off.
 */
public final class NumbersTest {
    private static final String NO_INDEX = Script.NO_INDEX;
    private static final String WRONG = Script.WRONG;
    private static final String NOT_NOW = Script.NOT_NOW;
    private static final String NONE = Script.NONE;

    private static final String SEAT = "seat(3, 2) = 0;";
    private static final String WEBS = SEAT + "web(0, 4) = 0; sign(0) = 1;";
    private static final String OPEN_SPRINGS = WEBS + "spring(0, 60, 3) = 1;";
    private static final String SPRINGS = OPEN_SPRINGS + "sign(0) = 2;";
    private static final String HIGH_TIES = WEBS + "spring(0, 99, 3) = 1; sign(0) = 2; tie(0) = 2;";
    private static final String LAYER = SPRINGS + "layer(0, 'd', 30, 5) = 2; sign(0) = 3;";
    private static final String BUTTONS = LAYER + "buttons(0) = 3;";
    /** Closed with three panels of 110. */
    private static final String COVER = LAYER + "cloth(600, 1) = 0; cover(0, 0, 0) = 330;";
    private static final String FOUR_LAYERS = SPRINGS + "layer(0, 'h', 31, 1) = 2; sign(0) = 3; layer(0, 'f', 32, 1) = 3;"
            + "sign(0) = 4; layer(0, 'd', 33, 1) = 4; sign(0) = 5; layer(0, 'h', 34, 1) = 5; sign(0) = 6;";
    private static final String MASS_19 = "body() = 0; mass(0, 0, 19) = 0;";

    private static final String[] CALLS_ON_A_SEAT = {
        "web(#, 4)", "spring(#, 60, 3)", "change(#, 0, 60, 3)", "tie(#)", "pull(#, true, 0, 50)", "pull(#, false, 0, 50)",
        "layer(#, 'h', 30, 5)", "buttons(#)", "draw(#, 0, 6)", "cover(#, 0, 0)", "sign(#)", "open(#, 0)", "steps(#)",
        "step(#, 0)", "isSigned(#, 0)", "isClosed(#)", "stands(#, 0)", "thick(#, 0)", "top(#, 0)", "folds(#, true)",
        "folds(#, false)", "buttonAt(#, 0)", "sinks(0, #, 0)", "pressure(0, #, 0)", "comfort(0, #)", "fit(0, 0, #)",
        "panel(#, 0)", "use(#, 1)", "pound(#, 1)", "hours(#)", "burns(#, 0)", "tack(#, 0, 1800)", "quarrels(#)",
        "promise(#, 7)", "holds(#)", "quote(#)", "meanTop(#)"
    };
    private static final String[] CALLS_ON_A_CELL = {
        "change(0, #, 60, 3)", "draw(0, #, 6)", "stands(0, #)", "top(0, #)", "buttonAt(0, #)", "sinks(0, 0, #)",
        "pressure(0, 0, #)"
    };
    private static final String[] CALLS_ON_A_BODY = {
        "mass(#, 0, 1)", "sinks(#, 0, 0)", "pressure(#, 0, 0)", "comfort(#, 0)", "fit(#, 0, 0)", "fit(0, #, 0)"
    };
    private static final String[] CALLS_ON_A_CLOTH = {"cover(0, #, 0)", "flaw(#, 40)", "left(#)"};

    public static void main(String[] args) {
        seatNumbers();
        cellNumbers();
        bodyNumbers();
        clothNumbers();
        seat();
        web();
        spring();
        change();
        pull();
        layer();
        kinds();
        draw();
        cover();
        open();
        stepNumbers();
        layerNumbers();
        mass();
        cloth();
        flaw();
        panel();
        use();
        pound();
        land();
        barredKinds();
        burns();
        tack();
        promise();
        Script.end("NumbersTest");
    }

    private static void seatNumbers() {
        StringBuilder seats = new StringBuilder("body() = 0; cloth(600, 1) = 0;");
        for (int count = 1; count <= 4; count++) {
            seats.append("seat(2, 3) = ").append(count - 1).append(';');
            for (String call : CALLS_ON_A_SEAT) {
                Bounds.indices("3 to 45, " + count + " seats", seats.toString(), call, count, NO_INDEX);
            }
        }
    }

    private static void cellNumbers() {
        for (int columns = 1; columns <= 6; columns++) {
            for (int rows = 1; rows <= 6; rows++) {
                String setup = "body() = 0; seat(" + columns + ", " + rows + ") = 0; web(0, 4) = 0; sign(0) = 1;"
                        + "spring(0, 60, 3) = 1;";
                for (String call : CALLS_ON_A_CELL) {
                    Bounds.cells("5 to 26, cells of " + columns + " columns, " + rows + " rows", setup, call, columns, rows);
                }
            }
        }
        Bounds.cells("5 change: cells ahead of springs", SEAT, "change(0, #, 60, 3)", 3, 2);
        Bounds.cells("10 draw: cells with buttons begun", BUTTONS, "draw(0, #, 6)", 3, 2);
        Bounds.cells("18 stands: cells ahead of springs", SEAT, "stands(0, #)", 3, 2);
        Bounds.cells("20 top: cells of a closed seat", COVER, "top(0, #)", 3, 2);
        Bounds.cells("22 buttonAt: cells with buttons begun", BUTTONS, "buttonAt(0, #)", 3, 2);
        Bounds.cells("24 mass: cells", "body() = 0", "mass(0, #, 1)", 6, 6);
        Bounds.cells("25 sinks: cells of a closed seat", COVER + "body() = 0", "sinks(0, 0, #)", 3, 2);
        Bounds.cells("26 pressure: cells of a closed seat", COVER + "body() = 0", "pressure(0, 0, #)", 3, 2);
    }

    private static void bodyNumbers() {
        StringBuilder bodies = new StringBuilder(SPRINGS);
        for (int count = 1; count <= 3; count++) {
            bodies.append("body() = ").append(count - 1).append(';');
            for (String call : CALLS_ON_A_BODY) {
                Bounds.indices("24 to 28, " + count + " bodies", bodies.toString(), call, count, NO_INDEX);
            }
        }
    }

    private static void clothNumbers() {
        StringBuilder cloths = new StringBuilder(LAYER);
        for (int count = 1; count <= 4; count++) {
            cloths.append("cloth(600, 3) = ").append(count - 1).append(';');
            for (String call : CALLS_ON_A_CLOTH) {
                Bounds.indices("11, 30, 31, " + count + " cloths", cloths.toString(), call, count, NO_INDEX);
            }
        }
    }

    private static void seat() {
        Bounds.range("2 seat: columns", "", "seat(#, 3) = 0; top(0, @) = 0", 1, 6, WRONG, columns -> 10 * columns - 8);
        Bounds.range("2 seat: rows", "", "seat(3, #) = 0; top(0, @) = 0", 1, 6, WRONG, rows -> 19 + rows);
    }

    private static void web() {
        Bounds.range("3 web: tension", SEAT, "web(0, #) = 0; sign(0) = 1; spring(0, 99, 1) = 1;" + MASS_19
                + "sinks(0, 0, 0) = @", 1, 9, WRONG, tension -> 190 / (1 + tension));
    }

    private static void spring() {
        Bounds.range("4 spring: height", WEBS, "spring(0, #, 3) = 1; stands(0, 0) = #; stands(0, 21) = #", 20, 99, WRONG);
        Bounds.range("4 spring: firmness", WEBS, "spring(0, 99, #) = 1;" + MASS_19 + "sinks(0, 0, 0) = @", 1, 9, WRONG,
                firmness -> 190 / (4 + firmness));
    }

    private static void change() {
        Bounds.range("5 change: height", OPEN_SPRINGS,
                "change(0, 11, #, 3) = 60; stands(0, 11) = #; stands(0, 10) = 60; stands(0, 1) = 60", 20, 99, WRONG);
        Bounds.range("5 change: height before", OPEN_SPRINGS,
                "change(0, 11, #, 3) = 60; change(0, 11, 50, 3) = #", 20, 99, WRONG);
        Bounds.range("5 change: firmness", OPEN_SPRINGS + MASS_19, "change(0, 0, 99, #) = 60; sinks(0, 0, 0) = @", 1, 9,
                WRONG, firmness -> 190 / (4 + firmness));
    }

    private static void pull() {
        Bounds.range("7 pull: height of a column", HIGH_TIES,
                "pull(0, true, 2, #) = @; stands(0, 20) = #; stands(0, 10) = 99", 10, 99, WRONG, height -> 2 * (99 - height));
        Bounds.range("7 pull: height of a row", HIGH_TIES,
                "pull(0, false, 1, #) = @; stands(0, 21) = #; stands(0, 20) = 99", 10, 99, WRONG, height -> 3 * (99 - height));
        Bounds.range("7 pull: columns", HIGH_TIES, "pull(0, true, #, 50) = 98; stands(0, @) = 50", 0, 2, NO_INDEX,
                column -> 10 * column + 1);
        Bounds.range("7 pull: rows", HIGH_TIES, "pull(0, false, #, 50) = 147; stands(0, @) = 50", 0, 1, NO_INDEX,
                row -> 20 + row);
        String wide = "seat(6, 6) = 0; web(0, 4) = 0; sign(0) = 1; spring(0, 99, 3) = 1; sign(0) = 2; tie(0) = 2;";
        Bounds.range("7 pull: 6 columns", wide, "pull(0, true, #, 98) = 6; stands(0, @) = 98", 0, 5, NO_INDEX,
                column -> 10 * column + 5);
        Bounds.range("7 pull: 6 rows", wide, "pull(0, false, #, 98) = 6; stands(0, @) = 98", 0, 5, NO_INDEX, row -> 50 + row);
    }

    private static void layer() {
        Bounds.range("8 layer: thickness", SPRINGS, "layer(0, 'h', #, 5) = 2; thick(0, 0) = #; top(0, 0) = @", 5, 60, WRONG,
                thickness -> 60 + thickness);
        Bounds.range("8 layer: firmness", SPRINGS + MASS_19, "layer(0, 'f', 60, #) = 2; sinks(0, 0, 0) = @", 1, 9, WRONG,
                firmness -> 27 + 19 * 60 / (20 * firmness));
    }

    private static void kinds() {
        for (int kind = 0; kind <= Character.MAX_VALUE; kind++) {
            Springseat workshop = new Springseat();
            workshop.seat(1, 1);
            workshop.web(0, 4);
            workshop.sign(0);
            workshop.spring(0, 60, 3);
            workshop.sign(0);
            boolean isLaid = true;
            try {
                workshop.layer(0, (char) kind, 30, 5);
            } catch (IllegalArgumentException e) {
                isLaid = false;
            }
            boolean isOne = kind == 'h' || kind == 'f' || kind == 'd';
            Script.same("8 layer: a layer of the kind " + kind, isLaid, isOne);
            Script.same("8 layer: steps behind the kind " + kind, workshop.steps(0), isOne ? 3 : 2);
        }
    }

    private static void draw() {
        Bounds.range("10 draw: depth", BUTTONS, "draw(0, 11, #) = 1; buttonAt(0, 11) = #; top(0, 11) = @; top(0, 10) = 90",
                1, 30, WRONG, depth -> 90 - depth);
    }

    private static void cover() {
        Bounds.range("11 cover: match of a repeat of 1", LAYER + "cloth(600, 1) = 0;", "cover(0, 0, #) = 330", 0, 0, WRONG);
        Bounds.range("11 cover: match of a repeat of 2", LAYER + "cloth(600, 2) = 0;",
                "cover(0, 0, #) = @; panel(0, 0) = #", 0, 1, WRONG, match -> 330 + match);
        Bounds.range("11 cover: match of a repeat of 60", LAYER + "cloth(600, 60) = 0;",
                "cover(0, 0, #) = @; panel(0, 0) = #", 0, 59, WRONG, match -> 350 + match);
        Bounds.range("11 cover: match ahead of any step", SEAT + "cloth(600, 7) = 0;", "cover(0, 0, #)" + NOT_NOW, 0, 6,
                WRONG);
    }

    private static void open() {
        Bounds.range("13 open: no steps", SEAT, "open(0, #) = 0; steps(0) = 0", 0, 0, WRONG);
        Bounds.range("13 open: a step", SEAT + "web(0, 4) = 0;", "open(0, #) = @; steps(0) = #", 0, 1, WRONG, left -> 1 - left);
        Bounds.range("13 open: a closed seat", COVER, "open(0, #) = @; steps(0) = #", 0, 4, WRONG, left -> 4 - left);
        Bounds.range("13 open: all nine steps", FOUR_LAYERS + "buttons(0) = 6; sign(0) = 7; cloth(2000, 1) = 0;"
                + "cover(0, 0, 0) = 630; sign(0) = 8;", "open(0, #) = @; steps(0) = #", 0, 8, WRONG, left -> 8 - left);
    }

    private static void stepNumbers() {
        Bounds.indices("15 step: none", SEAT, "step(0, #)", 0, NONE);
        Bounds.indices("15 step: one", SEAT + "web(0, 4) = 0", "step(0, #)", 1, NONE);
        Bounds.indices("15 step: four", COVER, "step(0, #)", 4, NONE);
        Bounds.indices("16 isSigned: none", SEAT, "isSigned(0, #)", 0, NONE);
        Bounds.indices("16 isSigned: one", SEAT + "web(0, 4) = 0", "isSigned(0, #)", 1, NONE);
        Bounds.indices("16 isSigned: four", COVER, "isSigned(0, #)", 4, NONE);
        Bounds.let("16 isSigned: all but the last one", COVER, "isSigned(0, #) = true; isSigned(0, 3) = false", 0, 2, n -> n);
    }

    private static void layerNumbers() {
        for (String call : new String[] {"thick(0, #)", "tack(0, #, 1800)"}) {
            Bounds.indices("19, 38: no layer", SPRINGS, call, 0, NONE);
            Bounds.indices("19, 38: one layer", LAYER, call, 1, NONE);
            Bounds.indices("19, 38: four layers", FOUR_LAYERS, call, 4, NONE);
            Bounds.indices("19, 38: three layers of four", FOUR_LAYERS + "open(0, 5)", call, 3, NONE);
        }
        Bounds.range("19 thick: from the lowest one", FOUR_LAYERS, "thick(0, #) = @", 0, 3, NONE, layer -> 31 + layer);
        Bounds.range("38 tack: each layer has its own", FOUR_LAYERS,
                "tack(0, #, 1800) = 0; tack(0, #, 1801) = 1800; tack(0, @, 1900) = 0", 0, 3, NONE, layer -> (layer + 1) % 4);
    }

    private static void mass() {
        Bounds.range("24 mass: mass", "body() = 0; body() = 1; mass(0, 55, 1) = 0;",
                "mass(0, 55, #) = 1; mass(0, 55, 5) = #; mass(1, 55, 5) = 0", 0, 99, WRONG);
    }

    private static void cloth() {
        Bounds.range("29 cloth: length", "", "cloth(#, 1) = 0; left(0) = #; flaw(0, @) = 1", 50, 2000, WRONG,
                length -> length - 1);
        Bounds.range("29 cloth: length, of one that is there", "cloth(50, 1) = 0;", "cloth(#, 1) = 1; flaw(1, #)" + NO_INDEX,
                50, 2000, WRONG);
        Bounds.refused("29 cloth: repeat", "", "cloth(600, #)", 1, 60, WRONG);
        for (int repeat = 1; repeat <= 60; repeat++) {
            int last = repeat - 1;
            int end = last + 2 * ((110 + last) / repeat * repeat) + 110;
            Script.run("29 cloth: a repeat of " + repeat, LAYER, "cloth(600, " + repeat + ") = 0; cover(0, 0, " + repeat + ")"
                    + WRONG + "cover(0, 0, " + last + ") = " + end + "; panel(0, 0) = " + last);
        }
    }

    private static void flaw() {
        Bounds.range("30 flaw: place", "cloth(60, 1) = 0;", "flaw(0, #) = 1; flaw(0, #)" + NOT_NOW, 0, 59, NO_INDEX);
        Bounds.let("30 flaw: behind the last cut", COVER, "flaw(0, #) = 1; flaw(0, #)" + NOT_NOW, 330, 599, n -> n);
        Bounds.let("30 flaw: ahead of the end of the last cut", COVER, "flaw(0, #)" + NOT_NOW, 0, 329, n -> n);
        Bounds.refused("30 flaw: no place of a cut cloth", COVER, "flaw(0, #)", 0, 599, NO_INDEX);
    }

    private static void panel() {
        Bounds.range("32 panel: three panels", COVER, "panel(0, #) = @", 0, 2, NONE, panel -> 110 * panel);
        for (int columns = 1; columns <= 6; columns++) {
            String setup = "seat(" + columns + ", 1) = 0; web(0, 4) = 0; sign(0) = 1; spring(0, 20, 3) = 1; sign(0) = 2;"
                    + "layer(0, 'd', 5, 5) = 2; sign(0) = 3;";
            Bounds.indices("32 panel: not closed", setup, "panel(0, #)", 0, NONE);
            Bounds.range("32 panel: as many as columns", setup + "cloth(600, 1) = 0; cover(0, 0, 0) = " + 35 * columns + ";",
                    "panel(0, #) = @", 0, columns - 1, NONE, panel -> 35 * panel);
        }
    }

    private static void use() {
        Bounds.range("33 use: hours", COVER, "use(0, #) = @; hours(0) = #", 1, 9999, WRONG, hours -> lost(hours));
    }

    private static void pound() {
        Bounds.range("34 pound: blows", COVER, "pound(0, #) = @", 1, 3000, WRONG, blows -> lost(3 * blows));
        Bounds.let("34 pound: hours of blows", COVER, "pound(0, #); hours(0) = @", 1, 3000, blows -> 3 * blows);
    }

    /** By how much the six tops of the closed seat, of a layer of down, are less. */
    private static int lost(int hours) {
        return 6 * (30 * hours / (2 * (hours + 500)));
    }

    private static void land() {
        Bounds.range("36 land: land", "", "land(#, 'h', 1) = 4; land(#, '-', 3) = 1; land(@, '-', 3) = 4", 0, 3, NO_INDEX,
                land -> (land + 1) % 4);
        Bounds.range("36 land: foam", "", "land(2, '-', #) = 4; land(2, '-', 0) = #", 0, 4, WRONG);
        Bounds.range("36 land: foam, with a kind", LAYER, "land(2, 'd', #) = 4; burns(0, 2) = true; land(2, 'd', 0) = #", 0, 4,
                WRONG);
    }

    private static void barredKinds() {
        for (int kind = 0; kind <= Character.MAX_VALUE; kind++) {
            Springseat workshop = new Springseat();
            boolean isBarred = true;
            try {
                workshop.land(1, (char) kind, 2);
            } catch (IllegalArgumentException e) {
                isBarred = false;
            }
            boolean isOne = kind == 'h' || kind == 'f' || kind == 'd' || kind == '-';
            Script.same("36 land: the kind " + kind, isBarred, isOne);
            Script.same("36 land: foam behind the kind " + kind, workshop.land(1, '-', 4), isOne ? 2 : 4);
        }
    }

    private static void burns() {
        Bounds.indices("37 burns: land", LAYER, "burns(0, #)", 4, NO_INDEX);
        Bounds.range("37 burns: each land has its own rule", LAYER,
                "land(#, 'd', 4) = 4; burns(0, #) = true; burns(0, @) = false", 0, 3, NO_INDEX, land -> (land + 1) % 4);
    }

    private static void tack() {
        Bounds.range("38 tack: year", LAYER, "tack(0, 0, #) = 0; tack(0, 0, 1800) = #", 1700, 2100, WRONG);
    }

    private static void promise() {
        Bounds.range("40 promise: hundredths", SEAT, "promise(0, #) = 20; promise(0, 5) = #", 0, 100, WRONG);
    }
}
