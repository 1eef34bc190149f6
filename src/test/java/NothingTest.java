/** Each thing asked of a workshop, a seat, a body, a cloth or a layer that has none of it. */
public final class NothingTest {
    private static final String NO_INDEX = Script.NO_INDEX;
    private static final String WRONG = Script.WRONG;
    private static final String NOT_NOW = Script.NOT_NOW;
    private static final String NONE = Script.NONE;

    private static final String SEAT = "seat(3, 2) = 0;";
    private static final String WEBS = SEAT + "web(0, 4) = 0; sign(0) = 1;";
    private static final String SPRINGS = WEBS + "spring(0, 60, 3) = 1; sign(0) = 2;";
    private static final String TIES = SPRINGS + "tie(0) = 2; sign(0) = 3;";
    private static final String LAYER = SPRINGS + "layer(0, 'f', 30, 5) = 2; sign(0) = 3;";
    private static final String BUTTONS = LAYER + "buttons(0) = 3;";

    private static final String NO_SPRINGS_TO_SINK = "sinks(0, 0, 0)" + NOT_NOW + "pressure(0, 0, 0)" + NOT_NOW
            + "comfort(0, 0)" + NOT_NOW + "fit(0, 0, 0)" + NOT_NOW;
    private static final String NO_LAYERS = "thick(0, 0)" + NONE + "thick(0, -1)" + NONE + "tack(0, 0, 1800)" + NONE
            + "burns(0, 0) = false; quarrels(0) = 0;";
    private static final String NO_BUTTONS = "folds(0, true) = 0; folds(0, false) = 0; buttonAt(0, 0)" + NONE
            + "buttonAt(0, 21)" + NONE;
    private static final String NO_COVER = "isClosed(0) = false; panel(0, 0)" + NONE + "panel(0, -1)" + NONE + "use(0, 1)"
            + NOT_NOW + "pound(0, 1)" + NOT_NOW + "hours(0)" + NOT_NOW + "holds(0)" + NOT_NOW;

    public static void main(String[] args) {
        noSeats();
        noBodies();
        noCloths();
        noSteps();
        noSprings();
        noTies();
        noLayers();
        noButtons();
        noneDrawn();
        noCover();
        noMasses();
        noFlawsAndCuts();
        noTacks();
        noHours();
        nothingLeft();
        oneCell();
        Script.end("NothingTest");
    }

    private static void noSeats() {
        String[] calls = {"web(0, 4)", "spring(0, 60, 3)", "change(0, 0, 60, 3)", "tie(0)", "pull(0, true, 0, 50)",
            "pull(0, false, 0, 50)", "layer(0, 'h', 30, 5)", "buttons(0)", "draw(0, 0, 6)", "cover(0, 0, 0)", "sign(0)",
            "open(0, 0)", "steps(0)", "step(0, 0)", "isSigned(0, 0)", "isClosed(0)", "stands(0, 0)", "thick(0, 0)",
            "top(0, 0)", "folds(0, true)", "folds(0, false)", "buttonAt(0, 0)", "sinks(0, 0, 0)", "pressure(0, 0, 0)",
            "comfort(0, 0)", "fit(0, 0, 0)", "panel(0, 0)", "use(0, 1)", "pound(0, 1)", "hours(0)", "burns(0, 0)",
            "tack(0, 0, 1800)", "quarrels(0)", "promise(0, 20)", "holds(0)", "quote(0)", "meanTop(0)"};
        for (String call : calls) {
            Script.run("no seats: " + call, call + NO_INDEX);
            Script.run("no seats, but a body and a cloth: " + call, "body() = 0; cloth(600, 7) = 0;" + call + NO_INDEX);
        }
        Script.run("1 no seats: checksum", "checksum() = 7");
        Script.run("44 no seats: closedShare", "closedShare()" + NONE);
        Script.run("44 no seats, but a body and a cloth: closedShare", "body() = 0; cloth(50, 1) = 0; closedShare()" + NONE);
        Script.run("46 no seats: isSound", "isSound() = true; body() = 0; cloth(50, 1) = 0; isSound() = true");
    }

    private static void noBodies() {
        for (String call : new String[] {"mass(0, 0, 1)", "sinks(0, 0, 0)", "pressure(0, 0, 0)", "comfort(0, 0)",
            "fit(0, 0, 0)"}) {
            Script.run("no bodies: " + call, SPRINGS + call + NO_INDEX);
        }
        Script.run("28 one body, no other one", SPRINGS, "body() = 0; fit(0, 1, 0)" + NO_INDEX, "fit(1, 0, 0)" + NO_INDEX,
                "fit(0, 0, 0) = 0");
        Script.run("46 no bodies: isSound", SPRINGS, "isSound() = true");
    }

    private static void noCloths() {
        for (String call : new String[] {"cover(0, 0, 0)", "flaw(0, 0)", "left(0)"}) {
            Script.run("no cloths: " + call, LAYER + call + NO_INDEX);
        }
    }

    private static void noSteps() {
        Script.run("14 no steps", SEAT, "steps(0) = 0");
        Script.run("15 no steps: step", SEAT, "step(0, 0)" + NONE, "step(0, -1)" + NONE, "step(0, 1)" + NONE);
        Script.run("16 no steps: isSigned", SEAT, "isSigned(0, 0)" + NONE, "isSigned(0, -1)" + NONE);
        Script.run("12 no steps: sign", SEAT, "sign(0)" + NOT_NOW);
        Script.run("13 no steps: open", SEAT, "open(0, 0) = 0; open(0, 1)" + WRONG, "open(0, -1)" + WRONG);
        Script.run("18, 20 no steps: cells", SEAT, "stands(0, 0) = 0; stands(0, 21) = 0; top(0, 0) = 0; top(0, 21) = 0");
        Script.run("25 to 28 no steps: bodies", SEAT, "body() = 0;" + NO_SPRINGS_TO_SINK);
        Script.run("19, 37 to 39 no steps: layers", SEAT, NO_LAYERS);
        Script.run("21, 22 no steps: buttons", SEAT, NO_BUTTONS);
        Script.run("17, 32 to 35, 41 no steps: cover", SEAT, NO_COVER);
        Script.run("42 no steps: quote", SEAT, "quote(0) = 0");
        Script.run("43 no steps: checksum", SEAT, "checksum() = 192588298777");
        Script.run("44 no steps: closedShare", SEAT, "closedShare() = 0.0");
        Script.run("45 no steps: meanTop", SEAT, "meanTop(0) = 0.0");
        Script.run("46 no steps: isSound", SEAT, "isSound() = true; body() = 0; mass(0, 0, 99) = 0; isSound() = true");
        Script.run("40 no steps: promise", SEAT, "promise(0, 0) = 20; promise(0, 100) = 0");
    }

    private static void noSprings() {
        Script.run("18, 20 webs alone: cells", WEBS, "stands(0, 0) = 0; top(0, 0) = 0; meanTop(0) = 0.0; quote(0) = 0");
        Script.run("25 to 28 webs alone: bodies", WEBS, "body() = 0; mass(0, 0, 99) = 0;" + NO_SPRINGS_TO_SINK);
        Script.run("25 to 28 webs alone, not signed: bodies", SEAT + "web(0, 4) = 0;", "body() = 0;" + NO_SPRINGS_TO_SINK);
        Script.run("5 webs alone: change", WEBS, "change(0, 0, 60, 3)" + NOT_NOW);
        Script.run("46 webs alone: isSound", WEBS, "body() = 0; mass(0, 0, 99) = 0; isSound() = true");
        Script.run("25 springs, not signed, sink", WEBS, "spring(0, 60, 3) = 1; body() = 0; mass(0, 0, 7) = 0",
                "sinks(0, 0, 0) = 10; pressure(0, 0, 0) = 35; comfort(0, 0) = 1; fit(0, 0, 0) = 0");
        Script.run("25 springs taken away do not sink", SPRINGS, "body() = 0; mass(0, 0, 7) = 0; sinks(0, 0, 0) = 10",
                "open(0, 1) = 1;" + NO_SPRINGS_TO_SINK);
    }

    private static void noTies() {
        Script.run("7 no ties: pull", SPRINGS, "pull(0, true, 0, 50)" + NOT_NOW, "pull(0, false, 0, 50)" + NOT_NOW);
        Script.run("18 no ties let springs stand", SPRINGS, "stands(0, 0) = 60; stands(0, 21) = 60");
        Script.run("18 ties as they begin let the highest springs stand", WEBS,
                "spring(0, 99, 3) = 1; sign(0) = 2; tie(0) = 2; stands(0, 0) = 99; stands(0, 21) = 99; quote(0) = 30");
        Script.run("8 a layer without ties", SPRINGS, "layer(0, 'h', 5, 1) = 2");
        Script.run("42 no ties: quote", SPRINGS, "quote(0) = 30");
    }

    private static void noLayers() {
        Script.run("19, 37 to 39 no layers behind springs", SPRINGS, NO_LAYERS);
        Script.run("19, 37 to 39 no layers behind ties", TIES, NO_LAYERS);
        Script.run("37 no layers do not burn where none of foam is let", TIES,
                "land(0, 'h', 0) = 4; land(1, '-', 0) = 4; burns(0, 0) = false; burns(0, 1) = false");
        Script.run("9 no layers: buttons", TIES, "buttons(0)" + NOT_NOW);
        Script.run("11 no layers: cover", TIES, "cloth(600, 1) = 0; cover(0, 0, 0)" + NOT_NOW);
        Script.run("20 no layers: the top is what springs stand", TIES, "top(0, 0) = 60; meanTop(0) = 60.0");
        Script.run("19 layers taken away", LAYER, "open(0, 2) = 1;" + NO_LAYERS);
    }

    private static void noButtons() {
        Script.run("21, 22 no buttons", LAYER, NO_BUTTONS);
        Script.run("10 no buttons: draw", LAYER, "draw(0, 0, 6)" + NOT_NOW);
        Script.run("11 a cover without buttons", LAYER, "cloth(600, 1) = 0; cover(0, 0, 0) = 330;" + NO_BUTTONS);
        Script.run("21, 22 buttons taken away", BUTTONS, "draw(0, 0, 6) = 1; draw(0, 11, 6) = 2; folds(0, false) = 1",
                "open(0, 3) = 1;" + NO_BUTTONS, "quote(0) = 90");
    }

    private static void noneDrawn() {
        Script.run("21, 22 buttons begun, none drawn", BUTTONS, NO_BUTTONS, "quote(0) = 90; top(0, 0) = 90");
        Script.run("11 a cover over buttons, none drawn", BUTTONS, "sign(0) = 4; cloth(600, 1) = 0; cover(0, 0, 0) = 330",
                NO_BUTTONS);
        Script.run("21 one button has no fold", BUTTONS, "draw(0, 0, 6) = 1; folds(0, true) = 0; folds(0, false) = 0");
    }

    private static void noCover() {
        Script.run("17, 32 to 35, 41 no cover behind springs", SPRINGS, NO_COVER);
        Script.run("17, 32 to 35, 41 no cover behind a layer", LAYER, NO_COVER);
        Script.run("17, 32 to 35, 41 no cover behind buttons", BUTTONS, NO_COVER, "sign(0) = 4;" + NO_COVER);
        Script.run("17, 32 to 35, 41 a cover taken away", LAYER, "cloth(600, 1) = 0; cover(0, 0, 0) = 330; use(0, 5) = 0",
                "open(0, 3) = 1;" + NO_COVER);
        Script.run("17, 32 to 35, 41 a cover that was refused", LAYER, "cloth(329, 1) = 0; cover(0, 0, 0)" + NONE, NO_COVER);
        Script.run("33 a cover, not signed, can be used", LAYER, "cloth(600, 1) = 0; cover(0, 0, 0) = 330; isClosed(0) = true",
                "isSigned(0, 3) = false; use(0, 1) = 0; pound(0, 1) = 0; hours(0) = 4; holds(0) = true; panel(0, 0) = 0");
    }

    private static void noMasses() {
        Script.run("25 to 28 a body without masses", SPRINGS, "body() = 0; body() = 1; sinks(0, 0, 0) = 0; sinks(0, 0, 21) = 0",
                "pressure(0, 0, 0) = 0; comfort(0, 0) = 0; fit(0, 1, 0) = 0; fit(0, 0, 0) = 0");
        Script.run("24 a body without masses: each was 0", "body() = 0; mass(0, 0, 1) = 0; mass(0, 55, 1) = 0; mass(0, 5, 1) = 0",
                "mass(0, 50, 1) = 0");
        Script.run("25 to 28 a body with masses off the seat alone", SPRINGS, "body() = 0; mass(0, 30, 99) = 0",
                "mass(0, 2, 99) = 0; mass(0, 22, 99) = 0; mass(0, 55, 99) = 0; sinks(0, 0, 20) = 0; sinks(0, 0, 1) = 0",
                "sinks(0, 0, 21) = 0; comfort(0, 0) = 0; fit(0, 0, 0) = 0; isSound() = true");
        Script.run("25 masses set to 0 again", SPRINGS, "body() = 0; mass(0, 0, 99) = 0; mass(0, 0, 0) = 99",
                "sinks(0, 0, 0) = 0; pressure(0, 0, 0) = 0; comfort(0, 0) = 0");
        Script.run("28 one body without masses, one with", SPRINGS, "body() = 0; body() = 1; mass(1, 0, 7) = 0",
                "fit(0, 1, 0) = 14; fit(1, 0, 0) = 14");
    }

    private static void noFlawsAndCuts() {
        Script.run("31 nothing cut yet", "cloth(2000, 60) = 0; left(0) = 2000; flaw(0, 0) = 1; left(0) = 2000");
        Script.run("11 no flaws", LAYER, "cloth(330, 1) = 0; cover(0, 0, 0) = 330");
        Script.run("31 nothing left", LAYER, "cloth(330, 1) = 0; cover(0, 0, 0) = 330; left(0) = 0; flaw(0, 0)" + NOT_NOW,
                "flaw(0, 329)" + NOT_NOW, "flaw(0, 330)" + NO_INDEX);
    }

    private static void noTacks() {
        Script.run("38 no tack yet", LAYER, "tack(0, 0, 1800) = 0; tack(0, 0, 1700) = 1800");
        Script.run("39 no tacks: quarrels", LAYER, "layer(0, 'h', 9, 1) = 3; quarrels(0) = 0");
        Script.run("39 one layer has none to quarrel with", LAYER, "tack(0, 0, 1700) = 0; quarrels(0) = 0");
    }

    private static void noHours() {
        String closed = LAYER + "cloth(600, 1) = 0; cover(0, 0, 0) = 330;";
        Script.run("19, 35, 41 not used yet", closed, "hours(0) = 0; thick(0, 0) = 30; holds(0) = true; promise(0, 0) = 20",
                "holds(0) = true");
        Script.run("19 used for an hour", closed, "use(0, 1) = 0; thick(0, 0) = 30");
    }

    private static void nothingLeft() {
        String emptied = BUTTONS + "draw(0, 0, 6) = 1; sign(0) = 4; cloth(600, 1) = 0; cover(0, 0, 0) = 330; open(0, 0) = 5;";
        Script.run("13 all steps taken away: steps", emptied, "steps(0) = 0; step(0, 0)" + NONE, "isSigned(0, 0)" + NONE,
                "sign(0)" + NOT_NOW, "open(0, 0) = 0; open(0, 1)" + WRONG);
        Script.run("13 all steps taken away: cells", emptied, "stands(0, 0) = 0; top(0, 0) = 0; meanTop(0) = 0.0");
        Script.run("13 all steps taken away: the rest", emptied, "body() = 0;" + NO_SPRINGS_TO_SINK, NO_LAYERS, NO_BUTTONS,
                NO_COVER, "quote(0) = 0; checksum() = 192588298777; closedShare() = 0.0; isSound() = true");
        Script.run("13 all steps taken away: only webs may come", emptied, "spring(0, 60, 3)" + NOT_NOW, "tie(0)" + NOT_NOW,
                "layer(0, 'h', 9, 1)" + NOT_NOW, "buttons(0)" + NOT_NOW, "cover(0, 0, 0)" + NOT_NOW, "web(0, 4) = 0");
    }

    private static void oneCell() {
        String one = "seat(1, 1) = 0; web(0, 1) = 0; sign(0) = 1; spring(0, 20, 1) = 1;";
        Script.run("2 a seat of one cell", one, "stands(0, 0) = 20; stands(0, 1)" + NO_INDEX, "stands(0, 10)" + NO_INDEX,
                "change(0, 0, 21, 1) = 20; meanTop(0) = 21.0; quote(0) = 5; checksum() = 6810");
        Script.run("25 no cell beside the only one", one, "body() = 0; mass(0, 0, 3) = 0; sinks(0, 0, 0) = 15",
                "fit(0, 0, 0) = 0; comfort(0, 0) = 1; isSound() = true");
        Script.run("7 one column and one row", one, "sign(0) = 2; tie(0) = 2; pull(0, true, 0, 19) = 1",
                "pull(0, false, 0, 18) = 1; pull(0, true, 1, 19)" + NO_INDEX, "pull(0, false, 1, 19)" + NO_INDEX,
                "stands(0, 0) = 18; quote(0) = 9");
        Script.run("32 one panel", one, "sign(0) = 2; layer(0, 'd', 5, 1) = 2; sign(0) = 3; cloth(50, 1) = 0",
                "cover(0, 0, 0) = 35; panel(0, 0) = 0; panel(0, 1)" + NONE, "closedShare() = 1.0");
    }
}
