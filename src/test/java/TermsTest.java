/**
 * The document's "What it is" and "Terms", sentence by sentence in their order; the answers were
 * worked out by hand from its words. Its sections "Promise n" are held in PromisesTest.
 */
public final class TermsTest {
    private static final String NO_INDEX = Script.NO_INDEX;
    private static final String WRONG = Script.WRONG;
    private static final String NOT_NOW = Script.NOT_NOW;
    private static final String FULL = Script.FULL;
    private static final String NONE = Script.NONE;

    /** Cells 0, 1, 2, 10, 11 and 12; springs stand 50, and with webs give way by 10 for each 6 of mass. */
    private static final String SEAT = "seat(2, 3) = 0;";
    private static final String WEBS = SEAT + "web(0, 4) = 0; sign(0) = 1;";
    private static final String NEW_SPRINGS = WEBS + "spring(0, 50, 2) = 1;";
    private static final String SPRINGS = NEW_SPRINGS + "sign(0) = 2;";
    private static final String NEW_TIES = SPRINGS + "tie(0) = 2;";
    /** Down of 10 under hair of 20: tops are 80, panels 110. */
    private static final String LAYERS = SPRINGS + "layer(0, 'd', 10, 1) = 2; sign(0) = 3; layer(0, 'h', 20, 2) = 3; sign(0) = 4;";
    private static final String BUTTONS = LAYERS + "buttons(0) = 4;";
    private static final String COVER = LAYERS + "cloth(600, 12) = 0; cover(0, 0, 5) = 235;";

    public static void main(String[] args) {
        seats();
        steps();
        signs();
        opening();
        websAndSprings();
        ties();
        layers();
        settling();
        buttons();
        foldsAndTops();
        ownSinking();
        sinkingsBeside();
        pressureComfortAndFit();
        cloths();
        panels();
        flawsInTheWay();
        use();
        lands();
        tacks();
        promises();
        quotes();
        exceptions();
        Script.end("TermsTest");
    }

    private static void seats() {
        Script.run("At most 4 seats are numbered from 0, each of 1 to 6 columns and 1 to 6 rows of cells",
                "seat(6, 1) = 0; seat(1, 6) = 1; seat(2, 3) = 2; seat(6, 6) = 3; seat(1, 1)" + FULL,
                "seat(0, 1)" + WRONG, "seat(1, 0)" + WRONG, "seat(7, 1)" + WRONG, "seat(1, 7)" + WRONG);
        Script.run("cells, told as 10 times the column plus the row",
                "seat(6, 1) = 0; seat(1, 6) = 1; seat(2, 3) = 2; top(0, 50) = 0; top(0, 1)" + NO_INDEX,
                "top(1, 5) = 0; top(1, 10)" + NO_INDEX, "top(2, 12) = 0; top(2, 3)" + NO_INDEX, "top(2, 20)" + NO_INDEX);
    }

    private static void steps() {
        Script.run("The work on a seat is a row of steps, numbered from 0", NEW_TIES, "sign(0) = 3; layer(0, 'f', 9, 9) = 3",
                "sign(0) = 4; buttons(0) = 4; sign(0) = 5; cloth(300, 1) = 0; cover(0, 0, 0) = 178; steps(0) = 6",
                "step(0, 0) = w; step(0, 1) = s; step(0, 2) = t; step(0, 3) = l; step(0, 4) = b; step(0, 5) = c");
        Script.run("The first step is webs, the second one springs", SEAT, "spring(0, 50, 2)" + NOT_NOW,
                "layer(0, 'h', 9, 9)" + NOT_NOW, "web(0, 4) = 0; sign(0) = 1; web(0, 4)" + NOT_NOW, "tie(0)" + NOT_NOW,
                "layer(0, 'h', 9, 9)" + NOT_NOW, "buttons(0)" + NOT_NOW, "spring(0, 50, 2) = 1");
        Script.run("then ties, at most once", NEW_TIES, "sign(0) = 3; tie(0)" + NOT_NOW, "layer(0, 'h', 9, 9) = 3");
        Script.run("layers, at most 4, ties ahead of the first layer", LAYERS, "tie(0)" + NOT_NOW, "layer(0, 'h', 9, 9) = 4",
                "sign(0) = 5; layer(0, 'h', 9, 9) = 5; sign(0) = 6; layer(0, 'h', 9, 9)" + NOT_NOW, "buttons(0) = 6");
        Script.run("then buttons, at most once, behind a layer", SPRINGS, "buttons(0)" + NOT_NOW, "layer(0, 'h', 9, 9) = 2",
                "sign(0) = 3; buttons(0) = 3; sign(0) = 4; buttons(0)" + NOT_NOW, "layer(0, 'h', 9, 9)" + NOT_NOW);
        Script.run("then the cover, behind a layer, by which the seat is closed", SPRINGS, "cloth(600, 12) = 0",
                "cover(0, 0, 5)" + NOT_NOW, "layer(0, 'h', 30, 9) = 2; sign(0) = 3; isClosed(0) = false",
                "cover(0, 0, 5) = 235; isClosed(0) = true; sign(0) = 4; cover(0, 0, 5)" + NOT_NOW, "buttons(0)" + NOT_NOW);
    }

    private static void signs() {
        Script.run("A step is done when the one ahead of it is signed", SEAT, "web(0, 4) = 0; spring(0, 50, 2)" + NOT_NOW,
                "sign(0) = 1; spring(0, 50, 2) = 1; tie(0)" + NOT_NOW, "layer(0, 'h', 9, 9)" + NOT_NOW, "sign(0) = 2; tie(0) = 2",
                "layer(0, 'h', 9, 9)" + NOT_NOW, "sign(0) = 3; layer(0, 'h', 9, 9) = 3; buttons(0)" + NOT_NOW,
                "layer(0, 'h', 9, 9)" + NOT_NOW, "cloth(600, 12) = 0; cover(0, 0, 5)" + NOT_NOW, "sign(0) = 4; buttons(0) = 4",
                "cover(0, 0, 5)" + NOT_NOW, "sign(0) = 5; cover(0, 0, 5) = 190");
        Script.run("Steps are signed one by one", SEAT, "sign(0)" + NOT_NOW, "web(0, 4) = 0; isSigned(0, 0) = false",
                "sign(0) = 1; sign(0)" + NOT_NOW, "isSigned(0, 0) = true; spring(0, 50, 2) = 1; isSigned(0, 1) = false",
                "isSigned(0, 0) = true; sign(0) = 2; isSigned(0, 1) = true");
    }

    private static void opening() {
        Script.run("To open a seat to a number of steps takes away all steps behind these", BUTTONS,
                "draw(0, 0, 6) = 1; sign(0) = 5; cloth(600, 12) = 0; cover(0, 0, 5) = 235; open(0, 6) = 0; open(0, 3) = 3",
                "steps(0) = 3; step(0, 2) = l; step(0, 3)" + NONE, "isClosed(0) = false; open(0, 4)" + WRONG);
        Script.run("what they brought is gone", BUTTONS,
                "draw(0, 0, 6) = 1; sign(0) = 5; cloth(600, 12) = 0; cover(0, 0, 5) = 235; tack(0, 1, 1900) = 0",
                "open(0, 3) = 3; panel(0, 0)" + NONE, "hours(0)" + NOT_NOW, "buttonAt(0, 0)" + NONE, "thick(0, 1)" + NONE,
                "top(0, 0) = 60; layer(0, 'h', 20, 2) = 3; tack(0, 1, 1901) = 0; open(0, 1) = 3; stands(0, 0) = 0; quote(0) = 0");
        Script.run("and the steps left are signed as they were", BUTTONS, "open(0, 5) = 0; isSigned(0, 4) = false; open(0, 4) = 1",
                "isSigned(0, 3) = true; sign(0)" + NOT_NOW, "open(0, 2) = 2; isSigned(0, 1) = true; tie(0) = 2");
    }

    private static void websAndSprings() {
        Script.run("Webs have a tension, 1 to 9", SEAT, "web(0, 0)" + WRONG, "web(0, 10)" + WRONG,
                "web(0, 1) = 0; open(0, 0) = 1; web(0, 9) = 0");
        Script.run("Springs have a height, 20 to 99, and a firmness, 1 to 9", WEBS, "spring(0, 19, 2)" + WRONG,
                "spring(0, 100, 2)" + WRONG, "spring(0, 50, 0)" + WRONG, "spring(0, 50, 10)" + WRONG,
                "spring(0, 20, 1) = 1; open(0, 1) = 1; spring(0, 99, 9) = 1");
        Script.run("alike in all cells at first", NEW_SPRINGS, "body() = 0; mass(0, 0, 6) = 0; mass(0, 1, 6) = 0; mass(0, 2, 6) = 0",
                "mass(0, 10, 6) = 0; mass(0, 11, 6) = 0; mass(0, 12, 6) = 0; sinks(0, 0, 0) = 10; sinks(0, 0, 12) = 10",
                "stands(0, 0) = 50; stands(0, 1) = 50; stands(0, 2) = 50; stands(0, 10) = 50; stands(0, 11) = 50",
                "stands(0, 12) = 50");
        Script.run("while springs are the last step, a spring of a cell can be changed in its height and firmness", NEW_SPRINGS,
                "change(0, 11, 70, 5) = 50; stands(0, 11) = 70; stands(0, 10) = 50; stands(0, 1) = 50; stands(0, 12) = 50",
                "body() = 0; mass(0, 11, 18) = 0; sinks(0, 0, 11) = 20; sign(0) = 2; change(0, 11, 60, 5)" + NOT_NOW,
                "tie(0) = 2; change(0, 11, 60, 5)" + NOT_NOW, "open(0, 1) = 2; spring(0, 40, 5) = 1; change(0, 11, 60, 5) = 40");
    }

    private static void ties() {
        Script.run("Ties have a height for each column and each row, as high as springs can be, 99, at first", WEBS,
                "spring(0, 99, 9) = 1; sign(0) = 2; stands(0, 12) = 99; tie(0) = 2; stands(0, 12) = 99; quote(0) = 30",
                "pull(0, true, 1, 99) = 0; pull(0, false, 2, 99) = 0; quote(0) = 30; pull(0, true, 2, 99)" + NO_INDEX,
                "pull(0, false, 3, 99)" + NO_INDEX);
        Script.run("while ties are the last step, a tie of a column or a row can be set to another height, 10 to 99", NEW_TIES,
                "pull(0, true, 1, 9)" + WRONG, "pull(0, true, 1, 100)" + WRONG, "pull(0, true, 1, 10) = 120; sign(0) = 3",
                "pull(0, true, 1, 20)" + NOT_NOW, "layer(0, 'h', 9, 9) = 3; pull(0, true, 1, 20)" + NOT_NOW);
        Script.run("A spring stands as high as its height and the ties let it, the least of these three", NEW_TIES,
                "pull(0, true, 1, 40) = 30; pull(0, false, 2, 30) = 30; stands(0, 1) = 50; stands(0, 11) = 40; stands(0, 2) = 30",
                "stands(0, 12) = 30; pull(0, true, 1, 20) = 50; stands(0, 12) = 20; pull(0, true, 1, 99) = 70",
                "stands(0, 12) = 30; stands(0, 11) = 50");
    }

    private static void layers() {
        Script.run("A layer has a kind, 'h' hair, 'f' foam, 'd' down, a thickness, 5 to 60, and a firmness, 1 to 9", SPRINGS,
                "layer(0, 'g', 9, 9)" + WRONG, "layer(0, 'h', 4, 9)" + WRONG, "layer(0, 'h', 61, 9)" + WRONG,
                "layer(0, 'h', 9, 0)" + WRONG, "layer(0, 'h', 9, 10)" + WRONG, "layer(0, 'h', 5, 1) = 2; sign(0) = 3",
                "layer(0, 'f', 60, 9) = 3; sign(0) = 4; layer(0, 'd', 33, 3) = 4; thick(0, 0) = 5; thick(0, 1) = 60",
                "thick(0, 2) = 33");
        Script.run("Each has its hours: as the seat is used, all hours go to each layer that is there", SPRINGS,
                "layer(0, 'h', 40, 1) = 2; sign(0) = 3; layer(0, 'f', 40, 1) = 3; sign(0) = 4; layer(0, 'd', 40, 1) = 4",
                "sign(0) = 5; cloth(1000, 1) = 0; cover(0, 0, 0) = 400; use(0, 1000) = 252; thick(0, 0) = 30; thick(0, 1) = 26",
                "thick(0, 2) = 22; open(0, 4) = 2; layer(0, 'd', 40, 1) = 4; thick(0, 2) = 40; sign(0) = 5",
                "cover(0, 0, 0) = 752; use(0, 100) = 60; hours(0) = 100; thick(0, 0) = 30; thick(0, 1) = 26; thick(0, 2) = 30");
    }

    private static void settling() {
        String closed = "sign(0) = 3; cloth(600, 1) = 0; cover(0, 0, 0) = ";
        Script.run("half of the thickness times the hours, divided by the sum of the hours and 1000 times the firmness for hair",
                SPRINGS, "layer(0, 'h', 40, 2) = 2", closed + "240; use(0, 2000) = 60; thick(0, 0) = 30");
        Script.run("400 times for foam", SPRINGS, "layer(0, 'f', 40, 2) = 2", closed + "240; use(0, 800) = 60; thick(0, 0) = 30");
        Script.run("100 times for down", SPRINGS, "layer(0, 'd', 40, 2) = 2", closed + "240; use(0, 200) = 60; thick(0, 0) = 30");
        Script.run("cut once", SPRINGS, "layer(0, 'd', 5, 1) = 2", closed + "170; use(0, 66) = 0; thick(0, 0) = 5",
                "use(0, 1) = 6; thick(0, 0) = 4; use(0, 332) = 0; use(0, 1) = 6; thick(0, 0) = 3");
    }

    private static void buttons() {
        Script.run("A button is drawn to a depth, 1 to 30, in a cell", BUTTONS, "draw(0, 0, 0)" + WRONG, "draw(0, 0, 31)" + WRONG,
                "draw(0, 3, 6)" + NO_INDEX, "draw(0, 0, 1) = 1; draw(0, 12, 30) = 2; buttonAt(0, 0) = 1; buttonAt(0, 12) = 30",
                "buttonAt(0, 1)" + NONE);
        Script.run("at most 12; one drawn anew in a cell takes the place of the one there",
                "seat(3, 5) = 0; web(0, 4) = 0; sign(0) = 1; spring(0, 50, 2) = 1; sign(0) = 2; layer(0, 'd', 10, 1) = 2; sign(0) = 3",
                "buttons(0) = 3; draw(0, 0, 1) = 1; draw(0, 1, 1) = 2; draw(0, 2, 1) = 3; draw(0, 3, 1) = 4; draw(0, 4, 1) = 5",
                "draw(0, 10, 1) = 6; draw(0, 11, 1) = 7; draw(0, 11, 2) = 7; draw(0, 12, 1) = 8; draw(0, 13, 1) = 9",
                "draw(0, 14, 1) = 10; draw(0, 20, 1) = 11; draw(0, 21, 1) = 12; draw(0, 22, 1)" + FULL, "draw(0, 21, 9) = 12",
                "buttonAt(0, 21) = 9; buttonAt(0, 11) = 2; buttonAt(0, 22)" + NONE);
    }

    private static void foldsAndTops() {
        Script.run("A fold is between two cells with buttons that lie one slantwise beside the other one", BUTTONS,
                "draw(0, 0, 6) = 1; draw(0, 1, 6) = 2; draw(0, 10, 6) = 3; folds(0, false) = 1; draw(0, 12, 6) = 4",
                "folds(0, false) = 2; draw(0, 11, 6) = 5; folds(0, false) = 3; draw(0, 2, 6) = 6; folds(0, false) = 4");
        Script.run("it lies if their depths are no more than 3 apart", BUTTONS, "draw(0, 0, 6) = 1; draw(0, 11, 9) = 2",
                "folds(0, true) = 1; draw(0, 11, 10) = 2; folds(0, true) = 0; folds(0, false) = 1; draw(0, 11, 3) = 2",
                "folds(0, true) = 1; draw(0, 11, 2) = 2; folds(0, true) = 0");
        Script.run("The top of a cell is what its spring stands, and the thickness of all layers, less the depth of its button",
                BUTTONS, "top(0, 0) = 80; draw(0, 0, 6) = 1; top(0, 0) = 74; top(0, 1) = 80");
        Script.run("0 at least", NEW_TIES, "pull(0, true, 0, 10) = 120; sign(0) = 3; layer(0, 'd', 5, 1) = 3; sign(0) = 4",
                "buttons(0) = 4; draw(0, 0, 14) = 1; top(0, 0) = 1; draw(0, 0, 15) = 1; top(0, 0) = 0; draw(0, 0, 30) = 1",
                "top(0, 0) = 0");
    }

    private static void ownSinking() {
        Script.run("A body has a mass for each cell, 0 to 99, 0 at first; at most 3 bodies are numbered from 0",
                "body() = 0; body() = 1; body() = 2; body()" + FULL, "mass(2, 55, 99) = 0; mass(2, 55, 0) = 99; mass(1, 55, 9) = 0",
                "mass(0, 0, 100)" + WRONG, "mass(0, 0, -1)" + WRONG, "mass(0, 56, 1)" + NO_INDEX, "mass(0, 6, 1)" + NO_INDEX);
        Script.run("10 times the mass divided by the sum of its firmness and the tension of the webs, cut", NEW_SPRINGS,
                "body() = 0; mass(0, 0, 5) = 0; sinks(0, 0, 0) = 8; mass(0, 0, 20) = 5; sinks(0, 0, 0) = 33");
        Script.run("at most as much as it stands", NEW_TIES, "body() = 0; mass(0, 0, 29) = 0; sinks(0, 0, 0) = 48",
                "mass(0, 0, 31) = 29; sinks(0, 0, 0) = 50; pull(0, false, 0, 40) = 20; sinks(0, 0, 0) = 40");
        Script.run("the mass times the thickness as it is, divided by 20 times the firmness, cut, at most the thickness as it is",
                LAYERS, "body() = 0; mass(0, 0, 5) = 0; sinks(0, 0, 0) = 12; mass(0, 0, 20) = 5; sinks(0, 0, 0) = 53",
                "mass(0, 0, 24) = 20; sinks(0, 0, 0) = 62; mass(0, 0, 99) = 24; sinks(0, 0, 0) = 80",
                "cloth(600, 1) = 0; cover(0, 0, 0) = 220; use(0, 2000) = 54; thick(0, 0) = 6; thick(0, 1) = 15",
                "sinks(0, 0, 0) = 71; mass(0, 0, 9) = 99; sinks(0, 0, 0) = 20");
    }

    private static void sinkingsBeside() {
        Script.run("the greatest of its own one and of those of the cells beside it, each less 8, cell after cell", LAYERS,
                "body() = 0; mass(0, 0, 20) = 0; sinks(0, 0, 0) = 53; sinks(0, 0, 1) = 45; sinks(0, 0, 10) = 45",
                "sinks(0, 0, 2) = 37; sinks(0, 0, 11) = 37; sinks(0, 0, 12) = 29");
        Script.run("left, right, ahead and behind", LAYERS, "body() = 0; mass(0, 11, 20) = 0; sinks(0, 0, 1) = 45",
                "sinks(0, 0, 10) = 45; sinks(0, 0, 12) = 45; sinks(0, 0, 0) = 37; sinks(0, 0, 2) = 37; mass(0, 11, 0) = 20",
                "mass(0, 1, 20) = 0; sinks(0, 0, 11) = 45; sinks(0, 0, 12) = 37");
        Script.run("of its own one, where that is greater", LAYERS, "body() = 0; mass(0, 0, 20) = 0; mass(0, 12, 99) = 0",
                "sinks(0, 0, 12) = 80; sinks(0, 0, 2) = 72; sinks(0, 0, 0) = 56; mass(0, 12, 6) = 99; sinks(0, 0, 0) = 53",
                "sinks(0, 0, 12) = 29; mass(0, 12, 12) = 6; sinks(0, 0, 12) = 32; sinks(0, 0, 2) = 37");
    }

    private static void pressureComfortAndFit() {
        Script.run("The pressure of a cell is 100 times its mass, divided by 10 more than how much it sinks, cut", LAYERS,
                "body() = 0; mass(0, 0, 20) = 0; pressure(0, 0, 0) = 31; pressure(0, 0, 1) = 0; mass(0, 12, 99) = 0",
                "pressure(0, 0, 0) = 30; pressure(0, 0, 12) = 110");
        Script.run("The comfort of a body is how many cells with a mass have a pressure of at most 100", LAYERS,
                "body() = 0; comfort(0, 0) = 0; mass(0, 0, 90) = 0; pressure(0, 0, 0) = 100; comfort(0, 0) = 1",
                "mass(0, 0, 91) = 90; pressure(0, 0, 0) = 101; comfort(0, 0) = 0; mass(0, 12, 1) = 0; comfort(0, 0) = 1");
        Script.run("the fit of two bodies is the sum over all cells of how far their sinkings are apart", LAYERS,
                "body() = 0; body() = 1; mass(0, 0, 20) = 0; fit(0, 1, 0) = 246; mass(1, 12, 20) = 0; fit(0, 1, 0) = 80",
                "fit(1, 0, 0) = 80; fit(1, 1, 0) = 0");
    }

    private static void cloths() {
        Script.run("At most 4 cloths are numbered from 0, each with a length, 50 to 2000, a repeat, 1 to 60",
                "cloth(49, 1)" + WRONG, "cloth(2001, 1)" + WRONG, "cloth(50, 0)" + WRONG, "cloth(50, 61)" + WRONG,
                "cloth(50, 1) = 0; cloth(2000, 60) = 1; cloth(50, 1) = 2; cloth(50, 1) = 3; cloth(50, 1)" + FULL,
                "left(0) = 50; left(1) = 2000");
        Script.run("and at most 10 flaws, at places from 0 to the length less 1", "cloth(50, 1) = 0; flaw(0, 50)" + NO_INDEX,
                "flaw(0, -1)" + NO_INDEX, "flaw(0, 0) = 1; flaw(0, 49) = 2; flaw(0, 2) = 3; flaw(0, 3) = 4; flaw(0, 4) = 5",
                "flaw(0, 5) = 6; flaw(0, 6) = 7; flaw(0, 7) = 8; flaw(0, 8) = 9; flaw(0, 9) = 10; flaw(0, 10)" + FULL);
        Script.run("in as many panels as the seat has columns, each as long as the rows times 10, and the greatest top",
                NEW_SPRINGS, "change(0, 11, 70, 5) = 50; sign(0) = 2; layer(0, 'd', 10, 1) = 2; sign(0) = 3; buttons(0) = 3",
                "draw(0, 0, 9) = 1; sign(0) = 4; cloth(600, 1) = 0; cover(0, 0, 0) = 220; panel(0, 0) = 0; panel(0, 1) = 110",
                "panel(0, 2)" + NONE, "panel(0, -1)" + NONE);
    }

    private static void panels() {
        Script.run("Panels are cut one behind the other, each at the first place at which the place modulo the repeat is the match",
                COVER, "panel(0, 0) = 5; panel(0, 1) = 125; left(0) = 365");
        Script.run("from what was cut last on", COVER, "seat(1, 1) = 1; web(1, 1) = 0; sign(1) = 1; spring(1, 30, 1) = 1; sign(1) = 2",
                "layer(1, 'h', 10, 1) = 2; sign(1) = 3; cover(1, 0, 7) = 285; panel(1, 0) = 235; left(0) = 315; isSound() = true");
        Script.run("and all of these lie on the cloth", LAYERS, "cloth(234, 12) = 0; cloth(235, 12) = 1; cover(0, 0, 5)" + NONE,
                "left(0) = 234; isClosed(0) = false; cover(0, 1, 5) = 235; left(1) = 0");
        Script.run("What is cut is gone, also when the cover is opened", COVER, "open(0, 4) = 1; left(0) = 365",
                "flaw(0, 234)" + NOT_NOW, "cover(0, 0, 5) = 475; panel(0, 0) = 245; panel(0, 1) = 365; left(0) = 125",
                "open(0, 4) = 1; cover(0, 0, 5)" + NONE, "left(0) = 125");
        Script.run("Each seam matches", LAYERS, "cloth(600, 60) = 0; cover(0, 0, 59) = 289; panel(0, 0) = 59; panel(0, 1) = 179");
    }

    private static void flawsInTheWay() {
        String cloth = LAYERS + "cloth(600, 12) = 0;";
        Script.run("no flaw is at any of its places: ahead of the first", cloth, "flaw(0, 4) = 1; cover(0, 0, 5) = 235");
        Script.run("no flaw is at any of its places: at the first", cloth, "flaw(0, 5) = 1; cover(0, 0, 5) = 247",
                "panel(0, 0) = 17; panel(0, 1) = 137");
        Script.run("no flaw is at any of its places: between", cloth, "flaw(0, 20) = 1; cover(0, 0, 5) = 259",
                "panel(0, 0) = 29; panel(0, 1) = 149");
        Script.run("of which there are as many as it is long: at the last", cloth, "flaw(0, 114) = 1; cover(0, 0, 5) = 355",
                "panel(0, 0) = 125; panel(0, 1) = 245");
        Script.run("of which there are as many as it is long: behind the last", cloth, "flaw(0, 115) = 1; cover(0, 0, 5) = 235",
                "panel(0, 0) = 5; panel(0, 1) = 125");
    }

    private static void use() {
        Script.run("A seat that is closed can be used for hours, 1 to 9999 at once", LAYERS, "use(0, 1)" + NOT_NOW,
                "cloth(600, 12) = 0; cover(0, 0, 5) = 235; use(0, 0)" + WRONG, "use(0, 10000)" + WRONG, "use(0, 1) = 0; hours(0) = 1",
                "use(0, 9999) = 72; hours(0) = 10000");
        Script.run("100000 in all since it was closed", COVER, "use(0, 9999); use(0, 9999); use(0, 9999); use(0, 9999)",
                "use(0, 9999); use(0, 9999); use(0, 9999); use(0, 9999); use(0, 9999); use(0, 9999); use(0, 11)" + NOT_NOW,
                "use(0, 10) = 0; use(0, 1)" + NOT_NOW, "pound(0, 1)" + NOT_NOW, "hours(0) = 100000; open(0, 4) = 1",
                "cloth(600, 1) = 1; cover(0, 1, 0) = 194; hours(0) = 0; use(0, 9999) = 0; hours(0) = 9999");
        Script.run("used for 300 hours", COVER, "use(0, 300) = 24; hours(0) = 300; thick(0, 0) = 7; thick(0, 1) = 19");
        Script.run("to pound it is as 3 hours for each blow", COVER, "pound(0, 100) = 24; hours(0) = 300; thick(0, 0) = 7",
                "thick(0, 1) = 19");
    }

    private static void lands() {
        Script.run("It burns by the rule of a land, 0 to 3", COVER, "burns(0, 0) = false; burns(0, 3) = false; burns(0, 4)" + NO_INDEX,
                "burns(0, -1)" + NO_INDEX);
        Script.run("a land bars some kinds of layers as the topmost one", COVER, "land(0, 'h', 4) = 4; burns(0, 0) = true",
                "land(0, 'd', 4) = 4; burns(0, 0) = false; land(0, 'f', 4) = 4; burns(0, 0) = false; land(0, '-', 4) = 4",
                "burns(0, 0) = false; burns(0, 1) = false");
        Script.run("and asks for at most so many layers of foam", LAYERS, "land(2, '-', 0) = 4; burns(0, 2) = false",
                "layer(0, 'f', 9, 9) = 4; burns(0, 2) = true; land(2, '-', 1) = 0; burns(0, 2) = false; sign(0) = 5",
                "layer(0, 'f', 9, 9) = 5; burns(0, 2) = true; land(2, '-', 2) = 1; burns(0, 2) = false");
    }

    private static void tacks() {
        Script.run("The tack of a layer is a year, 1700 to 2100, none at first", LAYERS, "tack(0, 0, 1699)" + WRONG,
                "tack(0, 0, 2101)" + WRONG, "tack(0, 0, 1700) = 0; tack(0, 0, 2100) = 1700; tack(0, 1, 1900) = 0",
                "tack(0, 0, 1900) = 2100; tack(0, 2, 1900)" + NONE);
        Script.run("Two layers with tacks quarrel if the upper one has the lesser year", LAYERS, "tack(0, 1, 1800) = 0",
                "quarrels(0) = 0; tack(0, 0, 1799) = 0; quarrels(0) = 0; tack(0, 0, 1800) = 1799; quarrels(0) = 0",
                "tack(0, 0, 1801) = 1800; quarrels(0) = 1; layer(0, 'f', 9, 9) = 4; quarrels(0) = 1; tack(0, 2, 1750) = 0",
                "quarrels(0) = 3");
    }

    private static void promises() {
        Script.run("As a seat is closed its crown is kept, the sum of tops of all cells", BUTTONS,
                "draw(0, 0, 30) = 1; sign(0) = 5; cloth(600, 12) = 0; cover(0, 0, 5) = 235; promise(0, 5) = 20; pound(0, 67) = 18",
                "holds(0) = true; use(0, 99) = 6; holds(0) = false");
        Script.run("A promise of a seat is a number of hundredths, 0 to 100, 20 at first", SEAT, "promise(0, -1)" + WRONG,
                "promise(0, 101)" + WRONG, "promise(0, 0) = 20; promise(0, 100) = 0; promise(0, 20) = 100");
        Script.run("not less than the crown by more than so many hundredths of it, cut", COVER, "promise(0, 0) = 20",
                "holds(0) = true; use(0, 300) = 24; holds(0) = false; promise(0, 4) = 0; holds(0) = false; promise(0, 5) = 4",
                "holds(0) = true; use(0, 9999) = 48; holds(0) = false; promise(0, 14) = 5; holds(0) = false",
                "promise(0, 15) = 14; holds(0) = true");
        Script.run("what was promised is told from the seat as it is", COVER, "promise(0, 5) = 20; use(0, 300) = 24",
                "holds(0) = true; open(0, 4) = 1; holds(0)" + NOT_NOW, "cover(0, 0, 5) = 459; use(0, 9999) = 48",
                "holds(0) = false; promise(0, 10) = 5; holds(0) = false; promise(0, 11) = 10; holds(0) = true");
    }

    private static void quotes() {
        Script.run("5 for each spring", WEBS, "quote(0) = 0; spring(0, 50, 2) = 1; quote(0) = 30");
        Script.run("2 for each tie of a column or row that is less than 99", NEW_TIES, "quote(0) = 30; pull(0, true, 0, 98) = 0",
                "quote(0) = 32; pull(0, false, 2, 10) = 80; quote(0) = 34; pull(0, true, 0, 99) = 0; quote(0) = 32");
        Script.run("the thickness as told of each layer, times 1 for down, 2 for foam, 3 for hair", SPRINGS,
                "layer(0, 'd', 10, 1) = 2; quote(0) = 40; sign(0) = 3; layer(0, 'f', 10, 1) = 3; quote(0) = 60; sign(0) = 4",
                "layer(0, 'h', 10, 1) = 4; quote(0) = 90");
        Script.run("4 for each button", BUTTONS, "quote(0) = 100; draw(0, 0, 9) = 1; draw(0, 1, 9) = 2; quote(0) = 108");
        Script.run("and the length of all panels of the cover", COVER, "quote(0) = 320; use(0, 9999) = 72; quote(0) = 320",
                "open(0, 4) = 1; quote(0) = 100");
    }

    private static void exceptions() {
        // Script holds each call that throws against an object on which it was not made.
        Script.run("A method that throws an exception changes nothing", COVER, "seat(7, 1)" + WRONG, "web(0, 5)" + NOT_NOW,
                "sign(1)" + NO_INDEX, "open(0, 6)" + WRONG, "cloth(49, 1)" + WRONG, "flaw(0, 234)" + NOT_NOW,
                "use(0, 10000)" + WRONG, "land(0, 'x', 0)" + WRONG, "tack(0, 0, 1)" + WRONG, "promise(0, 101)" + WRONG,
                "cover(0, 0, 5)" + NOT_NOW);
        Script.run("If several exceptions apply, the one that is listed first is thrown", COVER, "web(1, 0)" + NO_INDEX,
                "web(0, 0)" + WRONG, "change(0, 3, 0, 0)" + NO_INDEX, "change(0, 0, 0, 0)" + WRONG, "draw(0, 3, 0)" + NO_INDEX,
                "draw(0, 0, 0)" + WRONG, "cover(0, 1, -1)" + NO_INDEX, "cover(0, 0, -1)" + WRONG, "flaw(0, 600)" + NO_INDEX,
                "use(1, 0)" + NO_INDEX, "tack(0, 2, 0)" + NONE, "open(1, 99)" + NO_INDEX, "burns(1, 4)" + NO_INDEX);
    }
}
