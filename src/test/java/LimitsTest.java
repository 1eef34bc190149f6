/**
 * Each "at most", "at least", "at once" and "in all" of the document, met and passed by one; and what
 * may be there once, done twice.
 */
public final class LimitsTest {
    private static final String NO_INDEX = Script.NO_INDEX;
    private static final String WRONG = Script.WRONG;
    private static final String NOT_NOW = Script.NOT_NOW;
    private static final String FULL = Script.FULL;
    private static final String NONE = Script.NONE;

    private static final String SEAT = "seat(3, 2) = 0;";
    private static final String WEBS = SEAT + "web(0, 4) = 0; sign(0) = 1;";
    private static final String SPRINGS = WEBS + "spring(0, 60, 3) = 1; sign(0) = 2;";
    private static final String TIES = SPRINGS + "tie(0) = 2; sign(0) = 3;";
    private static final String LAYER = SPRINGS + "layer(0, 'h', 30, 5) = 2; sign(0) = 3;";
    /** Panels of 110: a place of 330 is as little as does for all three. */
    private static final String COVER = LAYER + "cloth(600, 1) = 0; cover(0, 0, 0) = 330;";
    private static final String WIDE = "seat(6, 6) = 0; web(0, 1) = 0; sign(0) = 1; spring(0, 99, 1) = 1; sign(0) = 2;";
    /** All cells but two stand 60, and one of these 10, with a layer of 5. */
    private static final String LOW = "seat(3, 1) = 0; web(0, 4) = 0; sign(0) = 1; spring(0, 60, 3) = 1; sign(0) = 2;"
            + "tie(0) = 2; pull(0, true, 0, 10) = 50; sign(0) = 3; layer(0, 'd', 5, 1) = 3; sign(0) = 4; buttons(0) = 4;";

    private static final String NEARLY_ALL_HOURS = "use(0, 9999); use(0, 9999); use(0, 9999); use(0, 9999); use(0, 9999);"
            + "use(0, 9999); use(0, 9999); use(0, 9999); use(0, 9999); use(0, 9999);";

    public static void main(String[] args) {
        seats();
        bodies();
        cloths();
        layers();
        onceOnly();
        buttons();
        buttonsInAllCells();
        flaws();
        hours();
        hoursOfBlows();
        hoursAnew();
        standsAtLeast();
        topsAtLeast();
        noTopAtAll();
        springsSinkAtMost();
        layersSinkAtMost();
        eightLess();
        comfort();
        folds();
        foam();
        barred();
        quarrels();
        promises();
        beyondTheSeat();
        panelsApart();
        tiesInQuote();
        layersInQuote();
        clothDoes();
        flawsInTheWay();
        matches();
        lastOf512Calls();
        Script.end("LimitsTest");
    }

    private static void seats() {
        Script.run("2 four seats, and no fifth", "seat(1, 1) = 0; seat(1, 1) = 1; seat(1, 1) = 2; seat(1, 1) = 3",
                "seat(1, 1)" + FULL, "seat(6, 6)" + FULL, "steps(3) = 0; steps(4)" + NO_INDEX);
        Script.run("2 opened seats are still there", SPRINGS,
                "seat(1, 1) = 1; seat(1, 1) = 2; seat(1, 1) = 3; open(0, 0) = 2; seat(1, 1)" + FULL);
    }

    private static void bodies() {
        Script.run("23 three bodies, and no fourth", "body() = 0; body() = 1; body() = 2; body()" + FULL,
                "mass(2, 0, 9) = 0; body()" + FULL, "mass(2, 0, 9) = 9; mass(3, 0, 9)" + NO_INDEX);
    }

    private static void cloths() {
        Script.run("29 four cloths, and no fifth", "cloth(50, 1) = 0; cloth(51, 1) = 1; cloth(52, 1) = 2; cloth(53, 1) = 3",
                "cloth(54, 1)" + FULL, "left(0) = 50; left(3) = 53; left(4)" + NO_INDEX);
        Script.run("29 cloths cut off are still there", LAYER, "cloth(330, 1) = 0; cover(0, 0, 0) = 330; left(0) = 0",
                "cloth(51, 1) = 1; cloth(52, 1) = 2; cloth(53, 1) = 3; cloth(54, 1)" + FULL);
    }

    private static void layers() {
        String four = "layer(0, 'd', 5, 1); sign(0); layer(0, 'd', 6, 1); sign(0); layer(0, 'd', 7, 1); sign(0);"
                + "layer(0, 'd', 8, 1); sign(0);";
        Script.run("8 four layers, and no fifth", SPRINGS + four, "layer(0, 'd', 9, 1)" + NOT_NOW, "steps(0) = 6",
                "thick(0, 3) = 8; thick(0, 4)" + NONE);
        Script.run("8 four layers behind ties, and no fifth", TIES + four, "layer(0, 'd', 9, 1)" + NOT_NOW, "steps(0) = 7",
                "thick(0, 3) = 8");
        Script.run("8 a fourth layer anew", SPRINGS + four, "open(0, 5) = 1; layer(0, 'f', 9, 1) = 5; sign(0) = 6",
                "thick(0, 3) = 9; layer(0, 'f', 9, 1)" + NOT_NOW);
        Script.run("8 four layers anew", SPRINGS + four, "open(0, 2) = 4", four, "layer(0, 'f', 9, 1)" + NOT_NOW,
                "top(0, 0) = 86");
        Script.run("8 four layers on each seat", SPRINGS + four, "seat(1, 1) = 1; web(1, 1) = 0; sign(1) = 1",
                "spring(1, 20, 1) = 1; sign(1) = 2; layer(1, 'h', 5, 1) = 2; sign(1) = 3; layer(1, 'h', 5, 1) = 3; sign(1) = 4",
                "layer(1, 'h', 5, 1) = 4; sign(1) = 5; layer(1, 'h', 5, 1) = 5; sign(1) = 6; layer(1, 'h', 5, 1)" + NOT_NOW);
    }

    private static void onceOnly() {
        Script.run("3 webs once", WEBS, "web(0, 4)" + NOT_NOW, "open(0, 0) = 1; web(0, 5) = 0");
        Script.run("4 springs once", SPRINGS, "spring(0, 60, 3)" + NOT_NOW, "open(0, 1) = 1; spring(0, 61, 3) = 1");
        Script.run("6 ties once", TIES, "tie(0)" + NOT_NOW, "open(0, 2) = 1; tie(0) = 2");
        Script.run("6 ties ahead of the first layer", LAYER, "tie(0)" + NOT_NOW, "open(0, 2) = 1; tie(0) = 2");
        Script.run("9 buttons once", LAYER, "buttons(0) = 3; buttons(0)" + NOT_NOW, "sign(0) = 4; buttons(0)" + NOT_NOW,
                "open(0, 3) = 1; buttons(0) = 3");
        Script.run("11 a cover once", COVER, "sign(0) = 4; cover(0, 0, 0)" + NOT_NOW,
                "cloth(600, 1) = 1; cover(0, 1, 0)" + NOT_NOW, "open(0, 3) = 1; cover(0, 1, 0) = 330");
    }

    private static void buttons() {
        String begun = WIDE + "layer(0, 'd', 60, 1) = 2; sign(0) = 3; buttons(0) = 3;";
        StringBuilder twelve = new StringBuilder(begun);
        for (int i = 0; i < 12; i++) {
            twelve.append("draw(0, ").append(i / 6 * 10 + i % 6).append(", 3) = ").append(i + 1).append(';');
        }
        Script.run("10 twelve buttons, and no thirteenth", twelve.toString(), "draw(0, 20, 3)" + FULL,
                "draw(0, 55, 30)" + FULL, "buttonAt(0, 20)" + NONE, "quote(0) = 288");
        Script.run("10 the twelfth anew", twelve.toString(), "draw(0, 15, 9) = 12; buttonAt(0, 15) = 9",
                "draw(0, 0, 9) = 12; buttonAt(0, 0) = 9; draw(0, 20, 3)" + FULL, "draw(0, 0, 9) = 12");
        Script.run("10 eleven buttons, one of them anew, and a twelfth", begun,
                "draw(0, 0, 3) = 1; draw(0, 1, 3) = 2; draw(0, 2, 3) = 3; draw(0, 3, 3) = 4; draw(0, 4, 3) = 5",
                "draw(0, 5, 3) = 6; draw(0, 10, 3) = 7; draw(0, 11, 3) = 8; draw(0, 12, 3) = 9; draw(0, 13, 3) = 10",
                "draw(0, 14, 3) = 11; draw(0, 14, 4) = 11; draw(0, 55, 3) = 12; draw(0, 54, 3)" + FULL);
        Script.run("10 twelve buttons on each seat", twelve.toString(), "seat(1, 1) = 1; web(1, 1) = 0; sign(1) = 1",
                "spring(1, 20, 1) = 1; sign(1) = 2; layer(1, 'd', 60, 1) = 2; sign(1) = 3; buttons(1) = 3; draw(1, 0, 3) = 1",
                "draw(0, 20, 3)" + FULL);
        Script.run("10 twelve buttons anew on an opened seat", twelve.toString(), "open(0, 3) = 1; buttons(0) = 3",
                "draw(0, 20, 3) = 1; draw(0, 0, 3) = 2");
    }

    private static void buttonsInAllCells() {
        String small = "seat(3, 4) = 0; web(0, 1) = 0; sign(0) = 1; spring(0, 20, 1) = 1; sign(0) = 2;"
                + "layer(0, 'd', 60, 1) = 2; sign(0) = 3; buttons(0) = 3;";
        Script.run("10 twelve cells with a button each", small,
                "draw(0, 0, 3) = 1; draw(0, 1, 3) = 2; draw(0, 2, 3) = 3; draw(0, 3, 3) = 4; draw(0, 10, 3) = 5",
                "draw(0, 11, 3) = 6; draw(0, 12, 3) = 7; draw(0, 13, 3) = 8; draw(0, 20, 3) = 9; draw(0, 21, 3) = 10",
                "draw(0, 22, 3) = 11; draw(0, 23, 3) = 12; folds(0, false) = 12; folds(0, true) = 12; draw(0, 23, 4) = 12");
        Script.run("10 the only cell", "seat(1, 1) = 0; web(0, 1) = 0; sign(0) = 1; spring(0, 20, 1) = 1; sign(0) = 2",
                "layer(0, 'd', 60, 1) = 2; sign(0) = 3; buttons(0) = 3; draw(0, 0, 3) = 1; draw(0, 0, 30) = 1",
                "top(0, 0) = 50; folds(0, false) = 0; draw(0, 1, 3)" + NO_INDEX, "draw(0, 10, 3)" + NO_INDEX);
    }

    private static void flaws() {
        String ten = "flaw(0, 9) = 1; flaw(0, 8) = 2; flaw(0, 7) = 3; flaw(0, 6) = 4; flaw(0, 5) = 5; flaw(0, 4) = 6;"
                + "flaw(0, 3) = 7; flaw(0, 2) = 8; flaw(0, 1) = 9; flaw(0, 0) = 10;";
        Script.run("30 ten flaws, and no eleventh", "cloth(50, 1) = 0;" + ten, "flaw(0, 10)" + FULL, "flaw(0, 49)" + FULL,
                "flaw(0, 9)" + NOT_NOW, "flaw(0, 0)" + NOT_NOW, "flaw(0, 50)" + NO_INDEX);
        Script.run("30 ten flaws on each cloth", "cloth(50, 1) = 0; cloth(50, 1) = 1;" + ten, "flaw(1, 0) = 1",
                ten.substring(0, ten.indexOf("flaw(0, 0)")).replace("flaw(0", "flaw(1").replaceAll("= \\d+", ""),
                "flaw(1, 10)" + FULL);
        Script.run("30 ten flaws all count as panels are cut", LAYER + "cloth(341, 1) = 0;" + ten, "cover(0, 0, 0) = 340",
                "panel(0, 0) = 10");
        Script.run("30 ten flaws that were cut off still are ten", LAYER + "cloth(600, 1) = 0;" + ten,
                "cover(0, 0, 0) = 340; flaw(0, 340)" + FULL, "flaw(0, 9)" + NOT_NOW);
    }

    private static void hours() {
        Script.run("33 100000 hours, and no more", COVER + NEARLY_ALL_HOURS, "hours(0) = 99990; use(0, 11)" + NOT_NOW,
                "use(0, 9999)" + NOT_NOW, "use(0, 10) = 0; hours(0) = 100000; use(0, 1)" + NOT_NOW, "use(0, 9999)" + NOT_NOW,
                "use(0, 0)" + WRONG, "hours(0) = 100000; thick(0, 0) = 16");
        Script.run("33 100000 hours, hour by hour", COVER + NEARLY_ALL_HOURS, "use(0, 9) = 0; hours(0) = 99999",
                "use(0, 2)" + NOT_NOW, "use(0, 1) = 0; use(0, 1)" + NOT_NOW);
        Script.run("33 100000 hours of each seat", COVER + NEARLY_ALL_HOURS, "use(0, 10) = 0; seat(1, 1) = 1; web(1, 1) = 0",
                "sign(1) = 1; spring(1, 20, 1) = 1; sign(1) = 2; layer(1, 'd', 5, 1) = 2; sign(1) = 3; cloth(50, 1) = 1",
                "cover(1, 1, 0) = 35; hours(1) = 0; use(1, 9999) = 2; use(0, 1)" + NOT_NOW);
    }

    private static void hoursOfBlows() {
        Script.run("34 blows to 100000 hours, less one", COVER + NEARLY_ALL_HOURS, "pound(0, 4)" + NOT_NOW,
                "pound(0, 3) = 0; hours(0) = 99999; pound(0, 1)" + NOT_NOW, "use(0, 1) = 0; hours(0) = 100000",
                "pound(0, 1)" + NOT_NOW);
        Script.run("34 a blow to just 100000 hours", COVER + NEARLY_ALL_HOURS, "use(0, 7) = 0; pound(0, 2)" + NOT_NOW,
                "pound(0, 1) = 0; hours(0) = 100000; pound(0, 3000)" + NOT_NOW, "pound(0, 3001)" + WRONG);
        Script.run("34 a blow too many by an hour", COVER + NEARLY_ALL_HOURS, "use(0, 8) = 0; hours(0) = 99998",
                "pound(0, 1)" + NOT_NOW, "use(0, 2) = 0");
    }

    private static void hoursAnew() {
        Script.run("33 100000 hours anew", COVER + NEARLY_ALL_HOURS, "use(0, 10) = 0; open(0, 3) = 1; cloth(600, 1) = 1",
                "cover(0, 1, 0) = 288; hours(0) = 0;" + NEARLY_ALL_HOURS, "use(0, 11)" + NOT_NOW,
                "use(0, 10) = 0; hours(0) = 100000; use(0, 1)" + NOT_NOW);
        Script.run("19 never all of the half settles", COVER + NEARLY_ALL_HOURS, "thick(0, 0) = 16; open(0, 3) = 1",
                "cloth(600, 1) = 1; cover(0, 1, 0) = 288;" + NEARLY_ALL_HOURS, "thick(0, 0) = 16");
    }

    private static void standsAtLeast() {
        Script.run("18 the least is the spring", TIES.replace("sign(0) = 3;", ""),
                "pull(0, true, 0, 61) = 0; pull(0, false, 0, 62) = 0; stands(0, 0) = 60");
        Script.run("18 the least is the tie of the column", TIES.replace("sign(0) = 3;", ""),
                "pull(0, true, 0, 58) = 4; pull(0, false, 0, 59) = 2; stands(0, 0) = 58");
        Script.run("18 the least is the tie of the row", TIES.replace("sign(0) = 3;", ""),
                "pull(0, true, 0, 59) = 2; pull(0, false, 0, 58) = 5; stands(0, 0) = 58");
        Script.run("18 all three alike", TIES.replace("sign(0) = 3;", ""),
                "pull(0, true, 0, 60) = 0; pull(0, false, 0, 60) = 0; stands(0, 0) = 60");
        Script.run("7 pulled lower, higher, and to where it was", TIES.replace("sign(0) = 3;", ""),
                "pull(0, true, 0, 59) = 2; pull(0, true, 0, 99) = 2; pull(0, true, 0, 99) = 0; pull(0, true, 0, 10) = 100",
                "pull(0, true, 0, 10) = 0; pull(0, false, 0, 10) = 100; pull(0, true, 0, 99) = 50");
        Script.run("7 a tie higher than its springs moves none", TIES.replace("sign(0) = 3;", ""),
                "pull(0, false, 1, 60) = 0; pull(0, false, 1, 98) = 0; quote(0) = 32");
    }

    private static void topsAtLeast() {
        Script.run("20 a top of 1", LOW, "draw(0, 0, 14) = 1; top(0, 0) = 1; checksum() = 6616643");
        Script.run("20 a top of just 0", LOW, "draw(0, 0, 15) = 1; top(0, 0) = 0; meanTop(0) = 43.333333333333336");
        Script.run("20 no top below 0", LOW, "draw(0, 0, 16) = 1; top(0, 0) = 0; meanTop(0) = 43.333333333333336",
                "draw(0, 0, 30) = 1; top(0, 0) = 0; isSound() = true");
        Script.run("33 a top of 0 can't be less", LOW, "draw(0, 0, 30) = 1; sign(0) = 5; cloth(600, 1) = 0",
                "cover(0, 0, 0) = 225; use(0, 9999) = 4; top(0, 0) = 0; top(0, 10) = 63; promise(0, 2) = 20",
                "holds(0) = false; promise(0, 4) = 2; holds(0) = true");
    }

    private static void noTopAtAll() {
        String flat = "seat(2, 1) = 0; web(0, 1) = 0; sign(0) = 1; spring(0, 20, 1) = 1; sign(0) = 2; tie(0) = 2;"
                + "pull(0, false, 0, 10) = 20; sign(0) = 3; layer(0, 'd', 5, 1) = 3; sign(0) = 4; buttons(0) = 4;"
                + "draw(0, 0, 15) = 1; draw(0, 10, 30) = 2; sign(0) = 5; cloth(50, 1) = 0; cover(0, 0, 0) = 20;";
        Script.run("11 panels as long as the rows, where there is no top", flat, "panel(0, 0) = 0; panel(0, 1) = 10",
                "left(0) = 30; quote(0) = 45; meanTop(0) = 0.0");
        Script.run("41 a crown of 0 holds", flat, "holds(0) = true; promise(0, 0) = 20; holds(0) = true; use(0, 9999) = 0",
                "holds(0) = true; promise(0, 100) = 0; holds(0) = true");
    }

    private static void springsSinkAtMost() {
        String soft = "seat(1, 1) = 0; web(0, 1) = 0; sign(0) = 1; spring(0, 95, 1) = 1; body() = 0;";
        Script.run("25 a spring sinks as much as it stands, and no more", soft,
                "mass(0, 0, 18) = 0; sinks(0, 0, 0) = 90; mass(0, 0, 19) = 18; sinks(0, 0, 0) = 95",
                "mass(0, 0, 20) = 19; sinks(0, 0, 0) = 95; mass(0, 0, 99) = 20; sinks(0, 0, 0) = 95");
        Script.run("25 a tied spring sinks as much as it stands", soft, "sign(0) = 2; tie(0) = 2; pull(0, true, 0, 10) = 85",
                "mass(0, 0, 1) = 0; sinks(0, 0, 0) = 5; mass(0, 0, 2) = 1; sinks(0, 0, 0) = 10; mass(0, 0, 3) = 2",
                "sinks(0, 0, 0) = 10");
        Script.run("25 no mass sinks nothing", soft, "sinks(0, 0, 0) = 0; mass(0, 0, 0) = 0; sinks(0, 0, 0) = 0",
                "mass(0, 0, 9) = 0; mass(0, 0, 0) = 9; sinks(0, 0, 0) = 0");
    }

    private static void layersSinkAtMost() {
        String hard = "seat(1, 1) = 0; web(0, 9) = 0; sign(0) = 1; spring(0, 20, 9) = 1; sign(0) = 2;";
        // The spring sinks 10, 11 and 11 under masses of 19, 20 and 21.
        Script.run("25 a layer sinks as much as it is thick, and no more", hard, "layer(0, 'd', 60, 1) = 2; body() = 0",
                "mass(0, 0, 19) = 0; sinks(0, 0, 0) = 67; mass(0, 0, 20) = 19; sinks(0, 0, 0) = 71; mass(0, 0, 21) = 20",
                "sinks(0, 0, 0) = 71; mass(0, 0, 99) = 21; sinks(0, 0, 0) = 80");
        Script.run("25 a layer sinks as much as it is thick by then", hard, "layer(0, 'd', 60, 1) = 2; sign(0) = 3",
                "cloth(600, 1) = 0; cover(0, 0, 0) = 90; use(0, 100) = 15; body() = 0; mass(0, 0, 20) = 0",
                "sinks(0, 0, 0) = 56; mass(0, 0, 19) = 20; sinks(0, 0, 0) = 52; mass(0, 0, 99) = 19; sinks(0, 0, 0) = 65");
        Script.run("25 four layers sink each as much as it is thick", hard,
                "layer(0, 'd', 60, 1) = 2; sign(0) = 3; layer(0, 'h', 60, 2) = 3; sign(0) = 4; layer(0, 'f', 60, 4) = 4",
                "sign(0) = 5; layer(0, 'd', 60, 5) = 5; body() = 0; mass(0, 0, 99) = 0; sinks(0, 0, 0) = 259");
    }

    private static void eightLess() {
        String row = "seat(3, 1) = 0; web(0, 1) = 0; sign(0) = 1; spring(0, 99, 9) = 1; body() = 0;";
        Script.run("25 a sinking of 8 leaves the cell beside it", row, "mass(0, 0, 8) = 0; sinks(0, 0, 0) = 8",
                "sinks(0, 0, 10) = 0");
        Script.run("25 a sinking of 9 takes the cell beside it along", row,
                "mass(0, 0, 9) = 0; sinks(0, 0, 0) = 9; sinks(0, 0, 10) = 1; sinks(0, 0, 20) = 0");
        Script.run("25 cell after cell", row, "mass(0, 0, 17) = 0; sinks(0, 0, 10) = 9; sinks(0, 0, 20) = 1",
                "mass(0, 0, 16) = 17; sinks(0, 0, 10) = 8; sinks(0, 0, 20) = 0");
        Script.run("25 the own one, where it is as great", row,
                "mass(0, 0, 18) = 0; mass(0, 10, 10) = 0; sinks(0, 0, 10) = 10; mass(0, 10, 11) = 10; sinks(0, 0, 10) = 11",
                "mass(0, 10, 9) = 11; sinks(0, 0, 10) = 10; sinks(0, 0, 20) = 2; sinks(0, 0, 0) = 18");
        Script.run("25 not slantwise, and not over an edge",
                "seat(2, 6) = 0; web(0, 1) = 0; sign(0) = 1; spring(0, 99, 9) = 1; body() = 0; mass(0, 5, 16) = 0",
                "sinks(0, 0, 4) = 8; sinks(0, 0, 15) = 8; sinks(0, 0, 14) = 0; sinks(0, 0, 10) = 0; sinks(0, 0, 0) = 0");
    }

    private static void comfort() {
        String seat = "seat(1, 1) = 0; web(0, 1) = 0; sign(0) = 1; spring(0, 20, 1) = 1; body() = 0;";
        Script.run("27 comfort asked ahead of all else", seat, "mass(0, 0, 30) = 0; comfort(0, 0) = 1");
        Script.run("27 a pressure of just 100", seat, "mass(0, 0, 30) = 0; pressure(0, 0, 0) = 100; comfort(0, 0) = 1");
        Script.run("27 a pressure above 100", seat, "mass(0, 0, 31) = 0; pressure(0, 0, 0) = 103; comfort(0, 0) = 0");
        Script.run("27 a mass of 1 counts, one of 0 does not", seat, "comfort(0, 0) = 0; mass(0, 0, 1) = 0; comfort(0, 0) = 1",
                "mass(0, 0, 0) = 1; comfort(0, 0) = 0");
        Script.run("26 no mass has no pressure, also where it sinks", WIDE,
                "body() = 0; mass(0, 0, 9) = 0; sinks(0, 0, 1) = 37; pressure(0, 0, 1) = 0; comfort(0, 0) = 1");
    }

    private static void folds() {
        String begun = WIDE + "layer(0, 'd', 60, 1) = 2; sign(0) = 3; buttons(0) = 3; draw(0, 22, 10) = 1;";
        for (int other : new int[] {11, 13, 31, 33}) {
            Script.run("21 a fold to " + other + " that lies, just so", begun, "draw(0, " + other + ", 13) = 2",
                    "folds(0, false) = 1; folds(0, true) = 1; draw(0, " + other + ", 7) = 2; folds(0, true) = 1");
            Script.run("21 a fold to " + other + " that does not lie, just so", begun, "draw(0, " + other + ", 14) = 2",
                    "folds(0, false) = 1; folds(0, true) = 0; draw(0, " + other + ", 6) = 2; folds(0, true) = 0");
        }
        for (int other : new int[] {12, 21, 23, 32, 0, 2, 4, 20, 24, 40, 42, 44, 1, 3, 10, 30, 41, 14}) {
            Script.run("21 no fold to " + other, begun, "draw(0, " + other + ", 10) = 2; folds(0, false) = 0");
        }
        for (int cell = 0; cell <= 55; cell += cell % 10 == 5 ? 5 : 1) {
            Script.run("21 one button alone in " + cell, begun.replace("draw(0, 22, 10) = 1;", ""),
                    "draw(0, " + cell + ", 1) = 1; folds(0, false) = 0; folds(0, true) = 0");
        }
        Script.run("21 the greatest way apart", begun, "draw(0, 22, 30) = 1; draw(0, 33, 1) = 2; folds(0, false) = 1",
                "folds(0, true) = 0; draw(0, 33, 27) = 2; folds(0, true) = 1; draw(0, 33, 26) = 2; folds(0, true) = 0");
        Script.run("21 a fold between buttons of the least depth", begun, "draw(0, 22, 1) = 1; draw(0, 33, 1) = 2",
                "folds(0, false) = 1; folds(0, true) = 1; draw(0, 33, 4) = 2; folds(0, true) = 1; draw(0, 33, 5) = 2",
                "folds(0, true) = 0; folds(0, false) = 1");
    }

    private static void foam() {
        for (int layers = 0; layers <= 4; layers++) {
            String laid = SPRINGS + "layer(0, 'f', 9, 1); sign(0);".repeat(layers);
            for (int lets = 0; lets <= 4; lets++) {
                Script.run("37 " + layers + " layers of foam where " + lets + " are let", laid,
                        "land(3, '-', " + lets + ") = 4; burns(0, 3) = " + (layers > lets));
            }
        }
        Script.run("37 at first a land lets 4, and bars none", SPRINGS + "layer(0, 'f', 9, 1); sign(0);".repeat(4),
                "burns(0, 0) = false; burns(0, 1) = false; burns(0, 2) = false; burns(0, 3) = false");
    }

    private static void barred() {
        for (char top : "hfd".toCharArray()) {
            for (char barred : "hfd-".toCharArray()) {
                Script.run("37 topmost " + top + ", barred " + barred, SPRINGS, "layer(0, 'h', 9, 1) = 2; sign(0) = 3",
                        "layer(0, '" + top + "', 9, 1) = 3; land(0, '" + barred + "', 4) = 4; burns(0, 0) = " + (top == barred));
                char below = barred == '-' ? 'h' : barred;
                Script.run("37 below the topmost " + top + ", barred " + barred, SPRINGS,
                        "layer(0, '" + below + "', 9, 1) = 2; sign(0) = 3; layer(0, '" + top + "', 9, 1) = 3",
                        "land(0, '" + barred + "', 4) = 4; burns(0, 0) = " + (top == barred));
            }
        }
        Script.run("37 no layer does not burn, whatever the rule", SPRINGS,
                "land(0, 'f', 0) = 4; land(1, '-', 0) = 4; burns(0, 0) = false; burns(0, 1) = false");
    }

    private static void quarrels() {
        String two = SPRINGS + "layer(0, 'h', 9, 1) = 2; sign(0) = 3; layer(0, 'h', 9, 1) = 3; sign(0) = 4;";
        Script.run("39 the upper one a year less", two, "tack(0, 0, 1900) = 0; tack(0, 1, 1899) = 0; quarrels(0) = 1");
        Script.run("39 the same year", two, "tack(0, 0, 1900) = 0; tack(0, 1, 1900) = 0; quarrels(0) = 0");
        Script.run("39 the upper one a year more", two, "tack(0, 0, 1900) = 0; tack(0, 1, 1901) = 0; quarrels(0) = 0");
        Script.run("39 no tack on the upper one", two, "tack(0, 0, 2100) = 0; quarrels(0) = 0");
        Script.run("39 no tack on the lower one", two, "tack(0, 1, 1700) = 0; quarrels(0) = 0");
        Script.run("39 first and last year", two, "tack(0, 0, 2100) = 0; tack(0, 1, 1700) = 0; quarrels(0) = 1");
        Script.run("39 six pairs, as many as four layers have", two, "layer(0, 'h', 9, 1) = 4; sign(0) = 5",
                "layer(0, 'h', 9, 1) = 5; tack(0, 0, 1804) = 0; tack(0, 1, 1803) = 0; tack(0, 2, 1802) = 0",
                "quarrels(0) = 3; tack(0, 3, 1801) = 0; quarrels(0) = 6; tack(0, 1, 1804) = 1803; quarrels(0) = 5");
    }

    private static void promises() {
        // A crown of 90, a layer of 60 that settles by 15 in its first 100 hours.
        String one = "seat(1, 1) = 0; web(0, 1) = 0; sign(0) = 1; spring(0, 30, 1) = 1; sign(0) = 2;"
                + "layer(0, 'd', 60, 1) = 2; sign(0) = 3; cloth(600, 1) = 0; cover(0, 0, 0) = 100;";
        Script.run("41 20 hundredths at first", one, "use(0, 150) = 18; holds(0) = true; use(0, 10) = 0; holds(0) = true",
                "use(0, 20) = 1; holds(0) = false");
        Script.run("41 just so many hundredths, cut", one, "promise(0, 17) = 20; use(0, 100) = 15; holds(0) = true",
                "promise(0, 16) = 17; holds(0) = false");
        Script.run("41 0 hundredths: no less at all", one, "promise(0, 0) = 20; use(0, 3) = 0; holds(0) = true",
                "use(0, 1) = 1; holds(0) = false");
        Script.run("41 1 hundredth of 90, cut, is none", one, "promise(0, 1) = 20; use(0, 4) = 1; holds(0) = false",
                "promise(0, 2) = 1; holds(0) = true");
        Script.run("41 100 hundredths always hold", one, "promise(0, 100) = 20; use(0, 9999) = 29; holds(0) = true");
        Script.run("41 a promise told behind the use", one, "use(0, 9999) = 29; holds(0) = false; promise(0, 32) = 20",
                "holds(0) = false; promise(0, 33) = 32; holds(0) = true");
    }

    private static void tiesInQuote() {
        String tied = TIES.replace("sign(0) = 3;", "");
        Script.run("42 a tie at 99 is not in the quote", tied, "quote(0) = 30; pull(0, true, 0, 99) = 0; quote(0) = 30");
        Script.run("42 a tie at 98 is in the quote", tied, "pull(0, true, 0, 98) = 0; quote(0) = 32");
        Script.run("42 a tie at 10 is in the quote, once", tied, "pull(0, false, 1, 10) = 150; quote(0) = 32",
                "pull(0, false, 1, 98) = 150; quote(0) = 32; pull(0, false, 1, 99) = 0; quote(0) = 30");
        Script.run("42 all ties", tied, "pull(0, true, 0, 50) = 20; pull(0, true, 1, 50) = 20; pull(0, true, 2, 50) = 20",
                "pull(0, false, 0, 50) = 0; pull(0, false, 1, 50) = 0; quote(0) = 40");
    }

    /** What lies just beyond the last column or row of a seat. */
    private static void beyondTheSeat() {
        String body = SPRINGS + "layer(0, 'd', 60, 1) = 2; body() = 0;";
        for (int cell : new int[] {30, 31, 2, 12, 22, 32, 55}) {
            Script.run("25 a great mass in " + cell + ", off the seat", body,
                    "mass(0, " + cell + ", 99) = 0; sinks(0, 0, 20) = 0; sinks(0, 0, 21) = 0",
                    "sinks(0, 0, 1) = 0; sinks(0, 0, 11) = 0; fit(0, 0, 0) = 0; isSound() = true");
            Script.run("27 a small mass in " + cell + ", off the seat", body, "mass(0, " + cell + ", 1) = 0; comfort(0, 0) = 0",
                    "mass(0, 21, 1) = 0; comfort(0, 0) = 1");
            Script.run("28 a mass in " + cell + ", off the seat, fits", body,
                    "body() = 1; mass(0, " + cell + ", 99) = 0; fit(0, 1, 0) = 0");
        }
    }

    private static void panelsApart() {
        String second = "seat(3, 2) = 1; web(1, 4) = 0; sign(1) = 1; spring(1, 60, 3) = 1; sign(1) = 2;"
                + "layer(1, 'h', 30, 5) = 2; sign(1) = 3;";
        Script.run("46 panels at the same places of two cloths", COVER + second,
                "isSound() = true; cloth(600, 1) = 1; cover(1, 1, 0) = 330; isSound() = true");
        Script.run("46 panels of two seats on one cloth, end to end", LAYER + second, "cloth(660, 1) = 0; cover(1, 0, 0) = 330",
                "isSound() = true; cover(0, 0, 0) = 660; panel(1, 2) = 220; panel(0, 0) = 330; isSound() = true");
        Script.run("46 panels where those of a cover taken away have been cut", LAYER + second, "cloth(660, 1) = 0",
                "cover(1, 0, 0) = 330; open(1, 3) = 1; cover(0, 0, 0) = 660; isSound() = true; panel(0, 0) = 330");
        Script.run("46 seats without panels", LAYER + second, "cloth(660, 1) = 0; isSound() = true");
    }

    private static void layersInQuote() {
        Script.run("42 the least layer of each kind", SPRINGS, "layer(0, 'd', 5, 1) = 2; quote(0) = 35; sign(0) = 3",
                "layer(0, 'f', 5, 1) = 3; quote(0) = 45; sign(0) = 4; layer(0, 'h', 5, 1) = 4; quote(0) = 60");
        Script.run("42 the greatest layer of each kind", SPRINGS, "layer(0, 'd', 60, 9) = 2; quote(0) = 90; sign(0) = 3",
                "layer(0, 'f', 60, 9) = 3; quote(0) = 210; sign(0) = 4; layer(0, 'h', 60, 9) = 4; quote(0) = 390");
        Script.run("42 a layer as told, not as it has settled", COVER, "quote(0) = 450; use(0, 9999) = 54; thick(0, 0) = 21",
                "quote(0) = 450; top(0, 0) = 81; open(0, 3) = 1; quote(0) = 120");
    }

    private static void clothDoes() {
        Script.run("11 a cloth that does, to a place", LAYER, "cloth(330, 1) = 0; cover(0, 0, 0) = 330; left(0) = 0",
                "isClosed(0) = true; flaw(0, 329)" + NOT_NOW, "flaw(0, 330)" + NO_INDEX);
        Script.run("11 a cloth a place too short", LAYER, "cloth(329, 1) = 0; cover(0, 0, 0)" + NONE, "left(0) = 329",
                "steps(0) = 3; isClosed(0) = false; flaw(0, 0) = 1");
        Script.run("11 a cloth for two panels of three", LAYER, "cloth(220, 1) = 0; cover(0, 0, 0)" + NONE, "left(0) = 220",
                "flaw(0, 219) = 1");
        Script.run("11 a cloth for no panel", LAYER, "cloth(50, 1) = 0; cover(0, 0, 0)" + NONE, "left(0) = 50");
        Script.run("11 a cloth that was cut, nothing left", LAYER,
                "cloth(330, 1) = 0; cover(0, 0, 0) = 330; open(0, 3) = 1; cover(0, 0, 0)" + NONE, "left(0) = 0");
        Script.run("11 what is left does, to a place", LAYER,
                "cloth(660, 1) = 0; cover(0, 0, 0) = 330; open(0, 3) = 1; cover(0, 0, 0) = 660; left(0) = 0");
        Script.run("11 what is left is a place too short", LAYER,
                "cloth(659, 1) = 0; cover(0, 0, 0) = 330; open(0, 3) = 1; cover(0, 0, 0)" + NONE, "left(0) = 329");
        Script.run("11 the longest panels", "seat(3, 6) = 0; web(0, 4) = 0; sign(0) = 1; spring(0, 99, 3) = 1; sign(0) = 2;"
                + "layer(0, 'h', 60, 5); sign(0);".repeat(4), "cloth(1197, 1) = 0; cover(0, 0, 0) = 1197",
                "panel(0, 2) = 798; left(0) = 0; cloth(1196, 1) = 1; open(0, 6) = 1; cover(0, 1, 0)" + NONE);
    }

    private static void flawsInTheWay() {
        Script.run("11 a flaw at the first place of a panel", LAYER, "cloth(331, 1) = 0; flaw(0, 0) = 1; cover(0, 0, 0) = 331",
                "panel(0, 0) = 1");
        Script.run("11 a flaw at the last place of a panel", LAYER,
                "cloth(440, 1) = 0; flaw(0, 109) = 1; cover(0, 0, 0) = 440; panel(0, 0) = 110");
        Script.run("11 a flaw a place behind a panel", LAYER,
                "cloth(331, 1) = 0; flaw(0, 110) = 1; cover(0, 0, 0) = 331; panel(0, 0) = 0; panel(0, 1) = 111");
        Script.run("11 a flaw at the last place of the last panel", LAYER, "cloth(330, 1) = 0; flaw(0, 329) = 1",
                "cover(0, 0, 0)" + NONE, "cloth(331, 1) = 1; flaw(1, 330) = 1; cover(0, 1, 0) = 330");
        Script.run("11 a flaw at the last place of all", LAYER, "cloth(332, 1) = 0; flaw(0, 331) = 1; cover(0, 0, 0) = 330",
                "left(0) = 2");
        Script.run("11 flaws a panel apart, just so", LAYER, "cloth(1000, 1) = 0; flaw(0, 50) = 1; flaw(0, 161) = 2",
                "flaw(0, 271) = 3; cover(0, 0, 0) = 492; panel(0, 0) = 51; panel(0, 1) = 272; panel(0, 2) = 382");
        Script.run("11 flaws and a match in the way", LAYER, "cloth(1000, 60) = 0; flaw(0, 59) = 1; flaw(0, 180) = 2",
                "cover(0, 0, 0) = 470; panel(0, 0) = 60; panel(0, 1) = 240; panel(0, 2) = 360");
        Script.run("11 a flaw told behind the cut is for the next cover", LAYER, "cloth(1000, 1) = 0; cover(0, 0, 0) = 330",
                "flaw(0, 439) = 1; open(0, 3) = 1; cover(0, 0, 0) = 770; panel(0, 0) = 440");
    }

    /** The place modulo the repeat: from the end of a panel the match wraps around to the next repeat. */
    private static void matches() {
        for (int repeat = 1; repeat <= 60; repeat++) {
            for (int match = 0; match < repeat; match++) {
                int end = 0;
                StringBuilder panels = new StringBuilder();
                for (int panel = 0; panel < 3; panel++) {
                    int place = end;
                    while (place % repeat != match) {
                        place++;
                    }
                    panels.append("panel(0, ").append(panel).append(") = ").append(place).append(';');
                    end = place + 110;
                }
                Script.run("11 a match of " + match + " in " + repeat, LAYER, "cloth(" + end + ", " + repeat + ") = 0",
                        "cover(0, 0, " + match + ") = " + end, panels.toString(), "left(0) = 0; isSound() = true");
            }
        }
        Script.run("11 from just at the match", LAYER, "cloth(600, 11) = 0; cover(0, 0, 0) = 330");
        Script.run("11 from a place behind the match", LAYER, "cloth(600, 55) = 0; flaw(0, 0) = 1; cover(0, 0, 0) = 385");
    }

    private static void lastOf512Calls() {
        StringBuilder calls = new StringBuilder(COVER);
        for (int call = 10; call < 512; call++) {
            calls.append("use(0, 1);");
        }
        Script.same("a run of so many calls", Script.calls(calls.toString()).size(), 511);
        Script.run("33 the 512th call", calls.toString(), "hours(0) = 502");
    }
}
