/** For each promise of the document: ordinary calls, the edges that it names, and wrong ones. */
public final class PromisesTest {
    private static final String NO_INDEX = Script.NO_INDEX;
    private static final String WRONG = Script.WRONG;
    private static final String NOT_NOW = Script.NOT_NOW;
    private static final String FULL = Script.FULL;
    private static final String NONE = Script.NONE;

    /** Seat 0: 3 columns, 2 rows; webs of 4, springs 60 high of firmness 3, each step signed. */
    private static final String SEAT = "seat(3, 2) = 0;";
    private static final String WEBS = SEAT + "web(0, 4) = 0; sign(0) = 1;";
    private static final String SPRINGS = WEBS + "spring(0, 60, 3) = 1; sign(0) = 2;";
    private static final String TIES = SPRINGS + "tie(0) = 2; sign(0) = 3;";
    private static final String LAYER = TIES + "layer(0, 'h', 30, 5) = 3; sign(0) = 4;";
    private static final String BUTTONS = LAYER + "buttons(0) = 4;";
    /** Closed with panels of 110 at 0, 110 and 220, on a cloth of 600. */
    private static final String COVER = LAYER + "cloth(600, 1) = 0; cover(0, 0, 0) = 330;";

    public static void main(String[] args) {
        newObject();
        seat();
        web();
        spring();
        change();
        tie();
        pull();
        layer();
        buttons();
        draw();
        cover();
        coverOnCloth();
        sign();
        open();
        openGivesBack();
        steps();
        stepAndIsSigned();
        isClosed();
        stands();
        thick();
        top();
        folds();
        buttonAt();
        body();
        mass();
        sinks();
        sinksFarAndWide();
        pressure();
        comfort();
        fit();
        cloth();
        flaw();
        left();
        panel();
        use();
        pound();
        hours();
        land();
        burns();
        tack();
        quarrels();
        promise();
        holds();
        quote();
        checksum();
        closedShare();
        meanTop();
        isSound();
        Script.end("PromisesTest");
    }

    private static void newObject() {
        Script.run("1 new", "checksum() = 7; isSound() = true; closedShare()" + NONE, "steps(0)" + NO_INDEX,
                "left(0)" + NO_INDEX, "mass(0, 0, 0)" + NO_INDEX,
                "land(0, '-', 4) = 4; land(1, '-', 4) = 4; land(2, '-', 4) = 4; land(3, '-', 4) = 4");
        Script.run("1 another new one has nothing of one ahead of it", COVER, "body() = 0");
        Script.run("1 another new one has nothing of one ahead of it",
                "checksum() = 7; body() = 0; cloth(50, 1) = 0");
    }

    private static void seat() {
        Script.run("2 seat", "seat(0, 1)" + WRONG, "seat(1, 0)" + WRONG, "seat(7, 1)" + WRONG,
                "seat(1, 7)" + WRONG, "seat(-1, -1)" + WRONG, "seat(-2147483648, 3)" + WRONG,
                "seat(3, 2147483647)" + WRONG,
                "seat(6, 6) = 0; seat(1, 1) = 1; seat(2, 6) = 2; seat(6, 1) = 3; seat(1, 1)" + FULL,
                "seat(6, 7)" + WRONG, "seat(0, 6)" + WRONG,
                "steps(3) = 0; isClosed(3) = false; top(0, 55) = 0; top(2, 15) = 0; top(3, 50) = 0",
                "top(2, 20)" + NO_INDEX, "top(3, 1)" + NO_INDEX, "top(0, 6)" + NO_INDEX, "top(0, 60)" + NO_INDEX,
                "steps(4)" + NO_INDEX, "quote(0) = 0; holds(0)" + NOT_NOW);
    }

    private static void web() {
        Script.run("3 web", "web(0, 4)" + NO_INDEX, SEAT, "web(-1, 4)" + NO_INDEX, "web(1, 0)" + NO_INDEX,
                "web(0, 0)" + WRONG, "web(0, 10)" + WRONG, "web(0, -2147483648)" + WRONG,
                "steps(0) = 0; web(0, 9) = 0; steps(0) = 1; step(0, 0) = w; isSigned(0, 0) = false",
                "web(0, 1)" + NOT_NOW, "web(0, 10)" + WRONG, "sign(0) = 1; web(0, 1)" + NOT_NOW,
                "open(0, 0) = 1; web(0, 1) = 0");
        Script.run("3 web behind springs", SPRINGS, "web(0, 1)" + NOT_NOW);
        Script.run("3 web behind a cover", COVER, "sign(0) = 5; web(0, 1)" + NOT_NOW);
        Script.run("3 tension counts in sinking", WEBS,
                "spring(0, 60, 1) = 1; body() = 0; mass(0, 0, 20) = 0; sinks(0, 0, 0) = 40; open(0, 0) = 2",
                "web(0, 9) = 0; sign(0) = 1; spring(0, 60, 1) = 1; sinks(0, 0, 0) = 20");
    }

    private static void spring() {
        Script.run("4 spring", "spring(0, 60, 3)" + NO_INDEX, SEAT, "spring(0, 60, 3)" + NOT_NOW,
                "spring(0, 19, 3)" + WRONG, "spring(1, 19, 3)" + NO_INDEX,
                "web(0, 4) = 0; spring(0, 60, 3)" + NOT_NOW, "sign(0) = 1; spring(0, 19, 3)" + WRONG,
                "spring(0, 100, 3)" + WRONG, "spring(0, 60, 0)" + WRONG, "spring(0, 60, 10)" + WRONG,
                "steps(0) = 1; stands(0, 0) = 0; spring(0, 99, 9) = 1; step(0, 1) = s; stands(0, 0) = 99",
                "stands(0, 21) = 99; spring(0, 60, 3)" + NOT_NOW, "sign(0) = 2; spring(0, 60, 3)" + NOT_NOW);
        Script.run("4 springs are alike anew", WEBS,
                "spring(0, 20, 1) = 1; change(0, 11, 99, 9) = 20; open(0, 1) = 1; stands(0, 11) = 0",
                "spring(0, 30, 2) = 1; stands(0, 11) = 30; stands(0, 0) = 30; body() = 0; mass(0, 11, 6) = 0",
                "sinks(0, 0, 11) = 10");
    }

    private static void change() {
        Script.run("5 change", "change(0, 0, 50, 5)" + NO_INDEX, SEAT, "change(0, 0, 50, 5)" + NOT_NOW,
                "web(0, 4) = 0; change(0, 0, 50, 5)" + NOT_NOW,
                "sign(0) = 1; spring(0, 60, 3) = 1; change(0, 11, 80, 6) = 60; change(0, 11, 99, 9) = 80",
                "change(0, 11, 20, 1) = 99; stands(0, 11) = 20; stands(0, 10) = 60; stands(0, 21) = 60",
                "change(0, 2, 50, 5)" + NO_INDEX, "change(0, 30, 50, 5)" + NO_INDEX,
                "change(0, -1, 50, 5)" + NO_INDEX, "change(0, -10, 50, 5)" + NO_INDEX,
                "change(0, 9, 50, 5)" + NO_INDEX, "change(1, 0, 19, 5)" + NO_INDEX,
                "change(0, 2, 19, 10)" + NO_INDEX, "change(0, 2147483647, 50, 5)" + NO_INDEX,
                "change(0, -2147483648, 50, 5)" + NO_INDEX, "change(0, 0, 19, 5)" + WRONG,
                "change(0, 0, 100, 5)" + WRONG, "change(0, 0, 50, 0)" + WRONG, "change(0, 0, 50, 10)" + WRONG,
                "sign(0) = 2; change(0, 0, 50, 5)" + NOT_NOW, "change(0, 0, 19, 5)" + WRONG,
                "tie(0) = 2; change(0, 0, 50, 5)" + NOT_NOW);
        Script.run("5 change of firmness alone", WEBS,
                "spring(0, 60, 3) = 1; body() = 0; mass(0, 0, 7) = 0; sinks(0, 0, 0) = 10",
                "change(0, 0, 60, 1) = 60; sinks(0, 0, 0) = 14; sinks(0, 0, 10) = 6");
    }

    private static void tie() {
        Script.run("6 tie", "tie(0)" + NO_INDEX, SEAT, "tie(0)" + NOT_NOW, "web(0, 4) = 0; tie(0)" + NOT_NOW,
                "sign(0) = 1; tie(0)" + NOT_NOW, "spring(0, 99, 3) = 1; tie(0)" + NOT_NOW,
                "sign(0) = 2; tie(0) = 2; step(0, 2) = t; stands(0, 0) = 99; quote(0) = 30; tie(0)" + NOT_NOW,
                "sign(0) = 3; tie(0)" + NOT_NOW, "tie(-1)" + NO_INDEX);
        Script.run("6 no ties behind a layer", SPRINGS, "layer(0, 'h', 30, 5) = 2; sign(0) = 3; tie(0)" + NOT_NOW);
        Script.run("6 ties anew are loose", SPRINGS,
                "tie(0) = 2; pull(0, true, 0, 10) = 100; pull(0, false, 1, 20) = 80; stands(0, 0) = 10",
                "open(0, 2) = 1; stands(0, 0) = 60; quote(0) = 30; tie(0) = 2; stands(0, 0) = 60",
                "stands(0, 21) = 60");
    }

    private static void pull() {
        Script.run("7 pull", "pull(0, true, 0, 50)" + NO_INDEX, SEAT, "pull(0, true, 0, 50)" + NOT_NOW,
                "web(0, 4) = 0; sign(0) = 1; spring(0, 60, 3) = 1; change(0, 11, 80, 6) = 60",
                "pull(0, true, 0, 50)" + NOT_NOW, "sign(0) = 2; pull(0, true, 0, 50)" + NOT_NOW,
                "tie(0) = 2; pull(0, true, 1, 50) = 40; stands(0, 10) = 50; stands(0, 11) = 50",
                "stands(0, 0) = 60; pull(0, false, 1, 40) = 50; stands(0, 11) = 40; stands(0, 10) = 50",
                "stands(0, 21) = 40; pull(0, true, 1, 99) = 10; stands(0, 10) = 60; stands(0, 11) = 40",
                "pull(0, false, 1, 99) = 80; stands(0, 11) = 80; pull(0, false, 0, 60) = 0",
                "pull(0, false, 0, 10) = 150; pull(0, true, 3, 50)" + NO_INDEX, "pull(0, false, 2, 50)" + NO_INDEX,
                "pull(0, true, -1, 50)" + NO_INDEX, "pull(0, false, -1, 50)" + NO_INDEX,
                "pull(0, true, 3, 9)" + NO_INDEX, "pull(1, true, 0, 50)" + NO_INDEX, "pull(0, true, 0, 9)" + WRONG,
                "pull(0, true, 0, 100)" + WRONG,
                "pull(0, true, 2, 10) = 50; sign(0) = 3; pull(0, true, 0, 50)" + NOT_NOW,
                "pull(0, true, 0, 100)" + WRONG, "pull(0, false, 2, 50)" + NO_INDEX);
        Script.run("7 pull of springs higher than ties", WEBS,
                "spring(0, 99, 1) = 1; sign(0) = 2; tie(0) = 2; pull(0, false, 0, 98) = 3",
                "pull(0, false, 0, 99) = 3; pull(0, false, 0, 99) = 0");
    }

    private static void layer() {
        Script.run("8 layer", "layer(0, 'h', 30, 5)" + NO_INDEX, SEAT, "layer(0, 'h', 30, 5)" + NOT_NOW,
                "web(0, 4) = 0; sign(0) = 1; layer(0, 'h', 30, 5)" + NOT_NOW,
                "spring(0, 60, 3) = 1; layer(0, 'h', 30, 5)" + NOT_NOW,
                "sign(0) = 2; layer(0, 'x', 30, 5)" + WRONG, "layer(0, 'H', 30, 5)" + WRONG,
                "layer(0, '-', 30, 5)" + WRONG, "layer(0, 'h', 4, 5)" + WRONG, "layer(0, 'h', 61, 5)" + WRONG,
                "layer(0, 'h', 30, 0)" + WRONG, "layer(0, 'h', 30, 10)" + WRONG,
                "layer(1, 'x', 30, 10)" + NO_INDEX,
                "layer(0, 'h', 5, 1) = 2; step(0, 2) = l; thick(0, 0) = 5; layer(0, 'f', 60, 9)" + NOT_NOW,
                "sign(0) = 3; layer(0, 'f', 60, 9) = 3; sign(0) = 4; layer(0, 'd', 7, 2) = 4; sign(0) = 5",
                "layer(0, 'h', 8, 2) = 5; thick(0, 3) = 8; layer(0, 'h', 8, 2)" + NOT_NOW,
                "sign(0) = 6; layer(0, 'h', 8, 2)" + NOT_NOW, "layer(0, 'h', 4, 2)" + WRONG, "thick(0, 4)" + NONE,
                "top(0, 0) = 140; buttons(0) = 6");
        Script.run("8 no layer behind buttons", BUTTONS, "sign(0) = 5; layer(0, 'h', 30, 5)" + NOT_NOW);
        Script.run("8 no layer behind a cover", COVER, "sign(0) = 5; layer(0, 'h', 30, 5)" + NOT_NOW);
        Script.run("8 a new layer has no hours, the one below keeps its own", COVER,
                "use(0, 5000) = 42; open(0, 4) = 1; layer(0, 'h', 30, 5) = 4; thick(0, 0) = 23",
                "thick(0, 1) = 30");
    }

    private static void buttons() {
        Script.run("9 buttons", "buttons(0)" + NO_INDEX, SEAT, "buttons(0)" + NOT_NOW);
        Script.run("9 buttons behind webs", WEBS, "buttons(0)" + NOT_NOW);
        Script.run("9 buttons behind springs", SPRINGS, "buttons(0)" + NOT_NOW);
        Script.run("9 buttons behind ties", TIES, "buttons(0)" + NOT_NOW,
                "layer(0, 'd', 5, 1) = 3; buttons(0)" + NOT_NOW,
                "sign(0) = 4; buttons(0) = 4; step(0, 4) = b; folds(0, false) = 0; quote(0) = 35",
                "buttonAt(0, 0)" + NONE, "buttons(0)" + NOT_NOW, "sign(0) = 5; buttons(0)" + NOT_NOW);
        Script.run("9 buttons behind a cover", COVER, "sign(0) = 5; buttons(0)" + NOT_NOW);
        Script.run("9 buttons anew", BUTTONS,
                "draw(0, 0, 6) = 1; open(0, 4) = 1; top(0, 0) = 90; buttons(0) = 4; buttonAt(0, 0)" + NONE,
                "draw(0, 1, 6) = 1");
    }

    private static void draw() {
        Script.run("10 draw", "draw(0, 0, 6)" + NO_INDEX, LAYER, "draw(0, 0, 6)" + NOT_NOW,
                "buttons(0) = 4; draw(0, 0, 6) = 1; draw(0, 11, 30) = 2; draw(0, 0, 1) = 2",
                "buttonAt(0, 0) = 1; buttonAt(0, 11) = 30; draw(0, 2, 6)" + NO_INDEX, "draw(0, 30, 6)" + NO_INDEX,
                "draw(0, -1, 6)" + NO_INDEX, "draw(0, -10, 0)" + NO_INDEX, "draw(1, 0, 6)" + NO_INDEX,
                "draw(0, 0, 0)" + WRONG, "draw(0, 0, 31)" + WRONG, "draw(0, 21, -1)" + WRONG,
                "sign(0) = 5; draw(0, 0, 6)" + NOT_NOW, "draw(0, 0, 31)" + WRONG, "draw(0, 12, 6)" + NO_INDEX);
        Script.run("10 draw: 12 buttons",
                "seat(6, 6) = 0; web(0, 1) = 0; sign(0) = 1; spring(0, 20, 1) = 1; sign(0) = 2",
                "layer(0, 'd', 60, 1) = 2; sign(0) = 3; buttons(0) = 3; draw(0, 0, 1) = 1; draw(0, 1, 1) = 2",
                "draw(0, 2, 1) = 3; draw(0, 3, 1) = 4; draw(0, 4, 1) = 5; draw(0, 5, 1) = 6",
                "draw(0, 10, 1) = 7; draw(0, 11, 1) = 8; draw(0, 12, 1) = 9; draw(0, 13, 1) = 10",
                "draw(0, 14, 1) = 11; draw(0, 55, 1) = 12; draw(0, 54, 1)" + FULL, "draw(0, 54, 31)" + WRONG,
                "draw(0, 56, 1)" + NO_INDEX,
                "draw(0, 55, 2) = 12; buttonAt(0, 55) = 2; draw(0, 0, 30) = 12; sign(0) = 4",
                "draw(0, 54, 1)" + NOT_NOW);
    }

    private static void cover() {
        Script.run("11 cover", SEAT, "cover(0, 0, 0)" + NO_INDEX, "cloth(600, 7) = 0; cover(1, 0, 0)" + NO_INDEX,
                "cover(0, 1, 0)" + NO_INDEX, "cover(0, -1, 9)" + NO_INDEX, "cover(-1, 0, 9)" + NO_INDEX,
                "cover(0, 0, -1)" + WRONG, "cover(0, 0, 7)" + WRONG, "cover(0, 0, 6)" + NOT_NOW, "left(0) = 600");
        Script.run("11 cover behind webs", WEBS, "cloth(600, 7) = 0; cover(0, 0, 0)" + NOT_NOW);
        Script.run("11 cover behind springs", SPRINGS, "cloth(600, 7) = 0; cover(0, 0, 0)" + NOT_NOW);
        Script.run("11 cover behind ties", TIES, "cloth(600, 7) = 0; cover(0, 0, 0)" + NOT_NOW,
                "layer(0, 'h', 30, 5) = 3; cover(0, 0, 0)" + NOT_NOW,
                "sign(0) = 4; cover(0, 0, 0) = 334; step(0, 4) = c; isSigned(0, 4) = false",
                "isClosed(0) = true; cover(0, 0, 0)" + NOT_NOW, "sign(0) = 5; cover(0, 0, 0)" + NOT_NOW,
                "panel(0, 0) = 0; panel(0, 1) = 112; panel(0, 2) = 224");
        Script.run("11 cover behind buttons", BUTTONS, "cloth(600, 7) = 0; cover(0, 0, 0)" + NOT_NOW,
                "draw(0, 0, 6) = 1; sign(0) = 5; cover(0, 0, 6) = 340; panel(0, 0) = 6; panel(0, 2) = 230",
                "left(0) = 260");
        Script.run("11 panels go by the greatest top", BUTTONS,
                "draw(0, 0, 6) = 1; draw(0, 1, 7) = 2; draw(0, 10, 5) = 3; draw(0, 11, 9) = 4",
                "draw(0, 20, 8) = 5; draw(0, 21, 6) = 6; sign(0) = 5; cloth(600, 1) = 0; cover(0, 0, 0) = 315",
                "quote(0) = 459");
    }

    private static void coverOnCloth() {
        Script.run("11 as long as the cloth, to a place", LAYER,
                "cloth(330, 1) = 0; cover(0, 0, 0) = 330; left(0) = 0");
        Script.run("11 a place too short", LAYER, "cloth(329, 1) = 0; cover(0, 0, 0)" + NONE,
                "left(0) = 329; isClosed(0) = false; panel(0, 0)" + NONE, "flaw(0, 0) = 1");
        Script.run("11 a match too far", LAYER, "cloth(341, 60) = 0; cover(0, 0, 0)" + NONE,
                "cover(0, 0, 59)" + NONE,
                "cloth(350, 60) = 1; cover(0, 1, 0) = 350; panel(0, 1) = 120; panel(0, 2) = 240");
        Script.run("11 flaws at the ends of a panel", LAYER,
                "cloth(600, 7) = 0; flaw(0, 112) = 1; flaw(0, 1) = 2; cover(0, 0, 2) = 336; panel(0, 0) = 2",
                "panel(0, 1) = 114; panel(0, 2) = 226; left(0) = 264; isSound() = true");
        Script.run("11 a flaw at the first and at the last place", LAYER,
                "cloth(600, 1) = 0; flaw(0, 0) = 1; flaw(0, 110) = 2; cover(0, 0, 0) = 441; panel(0, 0) = 111",
                "panel(0, 1) = 221; panel(0, 2) = 331");
        Script.run("11 a flaw just behind a panel", LAYER,
                "cloth(600, 1) = 0; flaw(0, 110) = 1; cover(0, 0, 0) = 331; panel(0, 0) = 0",
                "panel(0, 1) = 111; panel(0, 2) = 221");
        Script.run("11 flaws close to one another", LAYER,
                "cloth(600, 10) = 0; flaw(0, 200) = 1; flaw(0, 40) = 2; flaw(0, 95) = 3; flaw(0, 150) = 4",
                "cover(0, 0, 5) = 535; panel(0, 0) = 205; panel(0, 1) = 315; panel(0, 2) = 425");
        Script.run("11 flaws may leave too little", LAYER,
                "cloth(440, 1) = 0; flaw(0, 330) = 1; cover(0, 0, 0) = 330");
        Script.run("11 flaws may leave too little", LAYER,
                "cloth(440, 1) = 0; flaw(0, 329) = 1; cover(0, 0, 0) = 440");
        Script.run("11 flaws may leave too little", LAYER,
                "cloth(439, 1) = 0; flaw(0, 329) = 1; cover(0, 0, 0)" + NONE);
        Script.run("11 cloth cut once is gone, also when opened", COVER,
                "open(0, 4) = 1; left(0) = 270; cover(0, 0, 0)" + NONE,
                "cloth(660, 1) = 1; cover(0, 1, 0) = 330; open(0, 4) = 1; cover(0, 1, 0) = 660",
                "panel(0, 0) = 330; left(1) = 0");
        Script.run("11 two seats on a cloth", COVER,
                "seat(1, 1) = 1; web(1, 1) = 0; sign(1) = 1; spring(1, 20, 1) = 1; sign(1) = 2",
                "layer(1, 'f', 5, 1) = 2; sign(1) = 3; cover(1, 0, 0) = 365; panel(1, 0) = 330",
                "panel(0, 2) = 220");
    }

    private static void sign() {
        Script.run("12 sign", "sign(0)" + NO_INDEX, SEAT, "sign(0)" + NOT_NOW, "sign(1)" + NO_INDEX,
                "sign(-1)" + NO_INDEX, "web(0, 4) = 0; sign(0) = 1; sign(0)" + NOT_NOW,
                "spring(0, 60, 3) = 1; isSigned(0, 1) = false; sign(0) = 2; isSigned(0, 1) = true",
                "isSigned(0, 0) = true");
        Script.run("12 sign a cover", COVER,
                "isSigned(0, 4) = false; sign(0) = 5; isSigned(0, 4) = true; sign(0)" + NOT_NOW);
        Script.run("12 steps left are signed", BUTTONS, "open(0, 4) = 1; sign(0)" + NOT_NOW,
                "isSigned(0, 3) = true");
        Script.run("12 all nine steps", LAYER,
                "layer(0, 'h', 30, 5) = 4; sign(0) = 5; layer(0, 'h', 30, 5) = 5; sign(0) = 6",
                "layer(0, 'h', 30, 5) = 6; sign(0) = 7; buttons(0) = 7; sign(0) = 8; cloth(2000, 1) = 0",
                "cover(0, 0, 0) = 600; sign(0) = 9; steps(0) = 9; step(0, 8) = c; open(0, 0) = 9");
    }

    private static void open() {
        Script.run("13 open", "open(0, 0)" + NO_INDEX, SEAT, "open(0, 0) = 0; open(0, 1)" + WRONG,
                "open(0, -1)" + WRONG, "open(1, -1)" + NO_INDEX, "web(0, 4) = 0; open(0, 2)" + WRONG,
                "open(0, 1) = 0; isSigned(0, 0) = false; open(0, 0) = 1; steps(0) = 0; web(0, 5) = 0",
                "open(0, 2147483647)" + WRONG);
        Script.run("13 open takes the last steps", COVER,
                "sign(0) = 5; open(0, 5) = 0; isClosed(0) = true; open(0, 2) = 3; steps(0) = 2",
                "step(0, 1) = s; isSigned(0, 1) = true; isClosed(0) = false; layer(0, 'd', 5, 1) = 2");
    }

    private static void openGivesBack() {
        Script.run("13 what steps brought is gone", SPRINGS,
                "tie(0) = 2; pull(0, true, 0, 40) = 40; sign(0) = 3; layer(0, 'f', 40, 2) = 3; sign(0) = 4",
                "layer(0, 'd', 20, 2) = 4; sign(0) = 5; tack(0, 1, 1800) = 0; buttons(0) = 5",
                "draw(0, 0, 10) = 1; draw(0, 11, 10) = 2; sign(0) = 6; cloth(600, 1) = 0",
                "cover(0, 0, 0) = 420; quote(0) = 560; use(0, 1000) = 114; thick(0, 0) = 29; thick(0, 1) = 12",
                "promise(0, 7) = 20; open(0, 6) = 1; hours(0)" + NOT_NOW, "panel(0, 0)" + NONE,
                "quote(0) = 140; thick(0, 0) = 29; folds(0, true) = 1; open(0, 5) = 1; folds(0, false) = 0",
                "buttonAt(0, 0)" + NONE, "quote(0) = 132; top(0, 0) = 81; open(0, 4) = 1; thick(0, 1)" + NONE,
                "quote(0) = 112; top(0, 0) = 69; layer(0, 'd', 20, 2) = 4; thick(0, 1) = 20",
                "tack(0, 1, 1900) = 0; open(0, 3) = 2; quote(0) = 32; stands(0, 1) = 40; open(0, 2) = 1",
                "quote(0) = 30; stands(0, 1) = 60; open(0, 1) = 1; stands(0, 1) = 0; quote(0) = 0",
                "open(0, 0) = 1; promise(0, 20) = 7; left(0) = 180");
    }

    private static void steps() {
        Script.run("14 steps", "steps(0)" + NO_INDEX, SEAT, "steps(0) = 0; steps(1)" + NO_INDEX,
                "steps(-1)" + NO_INDEX,
                "web(0, 4) = 0; steps(0) = 1; sign(0) = 1; steps(0) = 1; spring(0, 60, 3) = 1; steps(0) = 2");
        Script.run("14 steps of each seat", COVER,
                "seat(1, 1) = 1; steps(1) = 0; steps(0) = 5; open(0, 3) = 2; steps(0) = 3");
    }

    private static void stepAndIsSigned() {
        Script.run("15, 16 step, isSigned", "step(0, 0)" + NO_INDEX, "isSigned(0, 0)" + NO_INDEX, SEAT,
                "step(0, 0)" + NONE, "isSigned(0, 0)" + NONE, "step(1, -1)" + NO_INDEX,
                "isSigned(-1, -1)" + NO_INDEX);
        Script.run("15, 16 all letters", BUTTONS,
                "step(0, 0) = w; step(0, 1) = s; step(0, 2) = t; step(0, 3) = l; step(0, 4) = b",
                "isSigned(0, 0) = true; isSigned(0, 3) = true; isSigned(0, 4) = false; step(0, 5)" + NONE,
                "step(0, -1)" + NONE, "isSigned(0, 5)" + NONE, "isSigned(0, -1)" + NONE,
                "sign(0) = 5; isSigned(0, 4) = true; cloth(600, 1) = 0; cover(0, 0, 0) = 330; step(0, 5) = c",
                "isSigned(0, 5) = false; open(0, 3) = 3; step(0, 3)" + NONE, "isSigned(0, 3)" + NONE,
                "step(0, 2147483647)" + NONE, "isSigned(0, -2147483648)" + NONE);
    }

    private static void isClosed() {
        Script.run("17 isClosed", "isClosed(0)" + NO_INDEX, SEAT, "isClosed(0) = false; isClosed(1)" + NO_INDEX);
        Script.run("17 closed by the cover, signed or not", BUTTONS,
                "isClosed(0) = false; sign(0) = 5; isClosed(0) = false; cloth(600, 1) = 0",
                "cover(0, 0, 0) = 330; isClosed(0) = true; sign(0) = 6; isClosed(0) = true; open(0, 5) = 1",
                "isClosed(0) = false");
    }

    private static void stands() {
        Script.run("18 stands", "stands(0, 0)" + NO_INDEX, SEAT, "stands(0, 21) = 0; stands(0, 22)" + NO_INDEX,
                "stands(0, 30)" + NO_INDEX, "stands(0, -1)" + NO_INDEX, "stands(0, -10)" + NO_INDEX,
                "stands(1, 0)" + NO_INDEX,
                "web(0, 4) = 0; stands(0, 0) = 0; sign(0) = 1; spring(0, 60, 3) = 1; stands(0, 0) = 60");
        Script.run("18 the least of three", SPRINGS,
                "tie(0) = 2; pull(0, true, 1, 50) = 20; pull(0, false, 0, 55) = 10; stands(0, 0) = 55",
                "stands(0, 1) = 60; stands(0, 10) = 50; stands(0, 11) = 50; stands(0, 20) = 55",
                "pull(0, true, 1, 70) = 15; stands(0, 10) = 55; stands(0, 11) = 60; sign(0) = 3",
                "layer(0, 'h', 30, 5) = 3; stands(0, 10) = 55");
    }

    private static void thick() {
        Script.run("19 thick", "thick(0, 0)" + NO_INDEX, SEAT, "thick(0, 0)" + NONE, "thick(1, 0)" + NO_INDEX,
                "thick(0, -1)" + NONE);
        Script.run("19 kinds settle each its way", SPRINGS,
                "layer(0, 'h', 59, 2) = 2; sign(0) = 3; layer(0, 'f', 59, 2) = 3; sign(0) = 4",
                "layer(0, 'd', 59, 2) = 4; sign(0) = 5; cloth(2000, 1) = 0; cover(0, 0, 0) = 771",
                "thick(0, 0) = 59; use(0, 300) = 168; thick(0, 0) = 56; thick(0, 1) = 51; thick(0, 2) = 42",
                "thick(0, 3)" + NONE,
                "hours(0) = 300; use(0, 1700) = 198; thick(0, 0) = 45; thick(0, 1) = 38; thick(0, 2) = 33");
        Script.run("19 half of what can settle is settled after as many hours as a layer resists", SPRINGS,
                "layer(0, 'h', 60, 9) = 2; sign(0) = 3; layer(0, 'f', 60, 9) = 3; sign(0) = 4",
                "layer(0, 'd', 60, 9) = 4; sign(0) = 5; cloth(2000, 1) = 0; cover(0, 0, 0) = 780",
                "use(0, 899) = 126; thick(0, 2) = 46; use(0, 1) = 12; thick(0, 2) = 45; use(0, 2699) = 132",
                "thick(0, 1) = 46; use(0, 1) = 12; thick(0, 1) = 45; use(0, 5399) = 90; thick(0, 0) = 46",
                "use(0, 1) = 6; thick(0, 0) = 45");
        Script.run("19 cut once", LAYER,
                "layer(0, 'd', 5, 1) = 4; sign(0) = 5; cloth(600, 1) = 0; cover(0, 0, 0) = 345",
                "use(0, 66) = 0; thick(0, 1) = 5; use(0, 1) = 6; thick(0, 1) = 4; use(0, 290) = 0",
                "use(0, 1) = 6; use(0, 41) = 0; use(0, 1) = 6; thick(0, 1) = 3; thick(0, 0) = 29");
    }

    private static void top() {
        Script.run("20 top", "top(0, 0)" + NO_INDEX, SEAT, "top(0, 0) = 0; top(0, 2)" + NO_INDEX,
                "top(0, 30)" + NO_INDEX, "top(0, -1)" + NO_INDEX, "top(0, -20)" + NO_INDEX, "top(1, 0)" + NO_INDEX);
        Script.run("20 springs, layers, buttons", BUTTONS,
                "top(0, 0) = 90; draw(0, 0, 6) = 1; top(0, 0) = 84; top(0, 1) = 90; draw(0, 0, 8) = 1",
                "top(0, 0) = 82");
        Script.run("20 at least 0", SPRINGS,
                "tie(0) = 2; pull(0, true, 0, 10) = 100; sign(0) = 3; layer(0, 'd', 5, 1) = 3; sign(0) = 4",
                "buttons(0) = 4; draw(0, 0, 15) = 1; top(0, 0) = 0; draw(0, 1, 14) = 2; top(0, 1) = 1",
                "draw(0, 0, 30) = 2; top(0, 0) = 0; top(0, 10) = 65; meanTop(0) = 43.5; isSound() = true");
    }

    private static void folds() {
        Script.run("21 folds", "folds(0, true)" + NO_INDEX, SEAT,
                "folds(0, true) = 0; folds(0, false) = 0; folds(1, true)" + NO_INDEX,
                "folds(-1, false)" + NO_INDEX);
        Script.run("21 slantwise, either way", BUTTONS,
                "draw(0, 0, 6) = 1; draw(0, 1, 6) = 2; draw(0, 20, 6) = 3; folds(0, false) = 0",
                "draw(0, 11, 9) = 4; folds(0, false) = 2; folds(0, true) = 2; draw(0, 11, 10) = 4",
                "folds(0, true) = 0; folds(0, false) = 2; draw(0, 10, 3) = 5; folds(0, false) = 3",
                "folds(0, true) = 1; draw(0, 10, 2) = 5; folds(0, true) = 0; folds(0, false) = 3",
                "draw(0, 21, 5) = 6; folds(0, false) = 4; folds(0, true) = 1");
        Script.run("21 not over an edge",
                "seat(2, 6) = 0; web(0, 1) = 0; sign(0) = 1; spring(0, 20, 1) = 1; sign(0) = 2",
                "layer(0, 'd', 60, 1) = 2; sign(0) = 3; buttons(0) = 3; draw(0, 5, 4) = 1; draw(0, 10, 4) = 2",
                "draw(0, 15, 4) = 3; draw(0, 0, 4) = 4; folds(0, false) = 0; draw(0, 4, 1) = 5",
                "folds(0, false) = 1; folds(0, true) = 1; draw(0, 1, 8) = 6; folds(0, false) = 2",
                "folds(0, true) = 1");
    }

    private static void buttonAt() {
        Script.run("22 buttonAt", "buttonAt(0, 0)" + NO_INDEX, SEAT, "buttonAt(0, 0)" + NONE,
                "buttonAt(0, 2)" + NO_INDEX, "buttonAt(0, -1)" + NO_INDEX, "buttonAt(0, 30)" + NO_INDEX,
                "buttonAt(1, 0)" + NO_INDEX);
        Script.run("22 depths", BUTTONS,
                "draw(0, 0, 30) = 1; draw(0, 21, 1) = 2; buttonAt(0, 0) = 30; buttonAt(0, 21) = 1",
                "buttonAt(0, 11)" + NONE, "sign(0) = 5; buttonAt(0, 0) = 30; draw(0, 0, 2)" + NOT_NOW,
                "buttonAt(0, 0) = 30");
    }

    private static void body() {
        Script.run("23 body", "body() = 0; body() = 1; body() = 2; body()" + FULL, "body()" + FULL,
                "mass(2, 0, 1) = 0; mass(3, 0, 1)" + NO_INDEX);
        Script.run("23 without masses", SPRINGS,
                "body() = 0; sinks(0, 0, 0) = 0; mass(0, 0, 9) = 0; body() = 1; sinks(1, 0, 0) = 0",
                "comfort(1, 0) = 0; mass(1, 0, 5) = 0; mass(0, 0, 9) = 9");
    }

    private static void mass() {
        Script.run("24 mass", "mass(0, 0, 1)" + NO_INDEX,
                "body() = 0; mass(0, 0, 99) = 0; mass(0, 55, 98) = 0; mass(0, 0, 0) = 99; mass(0, 0, 7) = 0",
                "mass(0, 55, 98) = 98; mass(0, 5, 3) = 0; mass(0, 50, 4) = 0; mass(0, 5, 3) = 3",
                "mass(0, 56, 1)" + NO_INDEX, "mass(0, 6, 1)" + NO_INDEX, "mass(0, 9, 1)" + NO_INDEX,
                "mass(0, 60, 1)" + NO_INDEX, "mass(0, -1, 1)" + NO_INDEX, "mass(0, -10, 1)" + NO_INDEX,
                "mass(1, 0, 1)" + NO_INDEX, "mass(-1, 0, 100)" + NO_INDEX, "mass(0, 6, 100)" + NO_INDEX,
                "mass(0, 0, -1)" + WRONG, "mass(0, 0, 100)" + WRONG, "mass(0, 0, 7) = 7");
    }

    private static void sinks() {
        Script.run("25 sinks", "sinks(0, 0, 0)" + NO_INDEX, "body() = 0; sinks(0, 0, 0)" + NO_INDEX, SEAT,
                "sinks(0, 0, 0)" + NOT_NOW, "sinks(1, 0, 0)" + NO_INDEX, "sinks(-1, 0, 0)" + NO_INDEX,
                "sinks(0, 1, 0)" + NO_INDEX, "sinks(0, 0, 2)" + NO_INDEX, "sinks(0, 0, 30)" + NO_INDEX,
                "sinks(0, 0, -1)" + NO_INDEX, "web(0, 4) = 0; sinks(0, 0, 0)" + NOT_NOW,
                "sign(0) = 1; spring(0, 60, 3) = 1; sinks(0, 0, 0) = 0");
        Script.run("25 springs", SPRINGS,
                "body() = 0; mass(0, 0, 20) = 0; sinks(0, 0, 0) = 28; mass(0, 0, 41) = 20",
                "sinks(0, 0, 0) = 58; mass(0, 0, 42) = 41; sinks(0, 0, 0) = 60; mass(0, 0, 99) = 42",
                "sinks(0, 0, 0) = 60");
        Script.run("25 as much as a tied spring stands", SPRINGS,
                "tie(0) = 2; pull(0, true, 0, 10) = 100; body() = 0; mass(0, 0, 9) = 0; sinks(0, 0, 0) = 10",
                "sinks(0, 0, 1) = 2; sinks(0, 0, 11) = 0");
        Script.run("25 layers as they are", SPRINGS,
                "layer(0, 'f', 40, 2) = 2; sign(0) = 3; layer(0, 'd', 10, 1) = 3; sign(0) = 4; body() = 0",
                "mass(0, 0, 7) = 0; sinks(0, 0, 0) = 20; mass(0, 0, 30) = 7; sinks(0, 0, 0) = 82",
                "cloth(2000, 1) = 0; cover(0, 0, 0) = 390; use(0, 1000) = 90; thick(0, 0) = 29",
                "thick(0, 1) = 6; sinks(0, 0, 0) = 69; mass(0, 0, 99) = 30; sinks(0, 0, 0) = 95");
        Script.run("25 buttons do not count", BUTTONS,
                "draw(0, 0, 30) = 1; body() = 0; mass(0, 0, 7) = 0; sinks(0, 0, 0) = 12");
        Script.run("25 the example",
                "seat(3, 2) = 0; web(0, 4) = 0; sign(0) = 1; spring(0, 60, 3) = 1; change(0, 11, 80, 6) = 60",
                "sign(0) = 2; tie(0) = 2; pull(0, true, 1, 50) = 40; sign(0) = 3; layer(0, 'h', 30, 5) = 3",
                "body() = 0; mass(0, 11, 80) = 0; sinks(0, 0, 11) = 74; sinks(0, 0, 1) = 66",
                "sinks(0, 0, 10) = 66; sinks(0, 0, 21) = 66; sinks(0, 0, 0) = 58; sinks(0, 0, 20) = 58");
    }

    private static void sinksFarAndWide() {
        String wide = "seat(6, 6) = 0; web(0, 1) = 0; sign(0) = 1; spring(0, 99, 1) = 1; body() = 0;";
        Script.run("25 from a corner", wide,
                "mass(0, 0, 18) = 0; sinks(0, 0, 0) = 90; sinks(0, 0, 5) = 50; sinks(0, 0, 50) = 50",
                "sinks(0, 0, 55) = 10; sinks(0, 0, 33) = 42; sinks(0, 0, 11) = 74");
        Script.run("25 from the other corner", wide,
                "mass(0, 55, 18) = 0; sinks(0, 0, 55) = 90; sinks(0, 0, 5) = 50; sinks(0, 0, 50) = 50",
                "sinks(0, 0, 0) = 10");
        Script.run("25 from a slant corner", wide,
                "mass(0, 5, 18) = 0; sinks(0, 0, 0) = 50; sinks(0, 0, 55) = 50; sinks(0, 0, 50) = 10",
                "sinks(0, 0, 14) = 74");
        Script.run("25 from the other slant corner", wide,
                "mass(0, 50, 18) = 0; sinks(0, 0, 0) = 50; sinks(0, 0, 55) = 50; sinks(0, 0, 5) = 10",
                "sinks(0, 0, 41) = 74");
        Script.run("25 the greatest of several", wide,
                "mass(0, 22, 10) = 0; mass(0, 25, 8) = 0; sinks(0, 0, 22) = 50; sinks(0, 0, 23) = 42",
                "sinks(0, 0, 24) = 34; sinks(0, 0, 25) = 40; mass(0, 25, 6) = 8; sinks(0, 0, 24) = 34",
                "sinks(0, 0, 25) = 30; mass(0, 25, 5) = 6; sinks(0, 0, 25) = 26");
        Script.run("25 masses off the seat", wide,
                "seat(2, 2) = 1; web(1, 1) = 0; sign(1) = 1; spring(1, 99, 1) = 1; mass(0, 2, 18) = 0",
                "mass(0, 20, 18) = 0; sinks(0, 0, 1) = 82; sinks(0, 1, 1) = 0; sinks(0, 1, 10) = 0",
                "sinks(0, 1, 11) = 0; sinks(0, 1, 2)" + NO_INDEX);
    }

    private static void pressure() {
        Script.run("26 pressure", "pressure(0, 0, 0)" + NO_INDEX, "body() = 0; pressure(0, 0, 0)" + NO_INDEX, SEAT,
                "pressure(0, 0, 0)" + NOT_NOW, "pressure(1, 0, 0)" + NO_INDEX, "pressure(0, 1, 0)" + NO_INDEX,
                "pressure(0, 0, 2)" + NO_INDEX, "pressure(0, 0, -1)" + NO_INDEX, "pressure(-1, 0, 0)" + NO_INDEX,
                "web(0, 4) = 0; sign(0) = 1; pressure(0, 0, 0)" + NOT_NOW,
                "spring(0, 60, 3) = 1; pressure(0, 0, 0) = 0; mass(0, 0, 20) = 0; pressure(0, 0, 0) = 52",
                "mass(0, 0, 99) = 20; pressure(0, 0, 0) = 141; pressure(0, 0, 1) = 0; mass(0, 1, 1) = 0",
                "sinks(0, 0, 1) = 52; pressure(0, 0, 1) = 1; mass(0, 0, 0) = 99; sinks(0, 0, 1) = 1",
                "pressure(0, 0, 1) = 9");
    }

    private static void comfort() {
        Script.run("27 comfort", "comfort(0, 0)" + NO_INDEX, "body() = 0; comfort(0, 0)" + NO_INDEX, SEAT,
                "comfort(0, 0)" + NOT_NOW, "comfort(1, 0)" + NO_INDEX, "comfort(0, 1)" + NO_INDEX,
                "comfort(-1, -1)" + NO_INDEX, "web(0, 4) = 0; comfort(0, 0)" + NOT_NOW,
                "sign(0) = 1; spring(0, 60, 3) = 1; comfort(0, 0) = 0");
        Script.run("27 comfort asked alone", SPRINGS, "body() = 0; mass(0, 0, 70) = 0; comfort(0, 0) = 1");
        Script.run("27 a pressure of 100 is one of comfort", SPRINGS,
                "body() = 0; mass(0, 0, 70) = 0; pressure(0, 0, 0) = 100; comfort(0, 0) = 1",
                "mass(0, 0, 71) = 70; pressure(0, 0, 0) = 101; comfort(0, 0) = 0; mass(0, 0, 70) = 71",
                "mass(0, 21, 1) = 0; comfort(0, 0) = 2; mass(0, 2, 1) = 0; mass(0, 55, 1) = 0",
                "comfort(0, 0) = 2; mass(0, 11, 99) = 0; comfort(0, 0) = 2");
    }

    private static void fit() {
        Script.run("28 fit", "fit(0, 0, 0)" + NO_INDEX, "body() = 0; fit(0, 0, 0)" + NO_INDEX, SEAT,
                "fit(0, 0, 0)" + NOT_NOW, "fit(0, 1, 0)" + NO_INDEX, "fit(1, 0, 0)" + NO_INDEX,
                "fit(0, -1, 0)" + NO_INDEX, "fit(0, 0, 1)" + NO_INDEX, "body() = 1; fit(0, 1, 0)" + NOT_NOW,
                "web(0, 4) = 0; sign(0) = 1; spring(0, 60, 3) = 1; fit(0, 1, 0) = 0; mass(0, 0, 7) = 0",
                "fit(0, 1, 0) = 14; fit(1, 0, 0) = 14; fit(0, 0, 0) = 0; mass(1, 21, 14) = 0",
                "sinks(1, 0, 0) = 0; fit(0, 1, 0) = 58; fit(1, 0, 0) = 58; fit(1, 1, 0) = 0",
                "mass(1, 55, 99) = 0; fit(1, 0, 0) = 58");
    }

    private static void cloth() {
        Script.run("29 cloth", "cloth(49, 1)" + WRONG, "cloth(2001, 1)" + WRONG, "cloth(50, 0)" + WRONG,
                "cloth(50, 61)" + WRONG, "cloth(-1, -1)" + WRONG,
                "cloth(50, 60) = 0; cloth(2000, 1) = 1; left(0) = 50; left(1) = 2000; cloth(100, 10) = 2",
                "cloth(51, 2) = 3; cloth(50, 1)" + FULL, "cloth(49, 1)" + WRONG, "cloth(50, 61)" + WRONG,
                "left(3) = 51; flaw(3, 50) = 1");
    }

    private static void flaw() {
        Script.run("30 flaw", "flaw(0, 0)" + NO_INDEX, "cloth(50, 1) = 0; flaw(0, -1)" + NO_INDEX,
                "flaw(0, 50)" + NO_INDEX, "flaw(1, 0)" + NO_INDEX, "flaw(-1, 0)" + NO_INDEX,
                "flaw(0, 0) = 1; flaw(0, 49) = 2; flaw(0, 0)" + NOT_NOW, "flaw(0, 49)" + NOT_NOW,
                "flaw(0, 1) = 3; flaw(0, 2) = 4; flaw(0, 3) = 5; flaw(0, 4) = 6; flaw(0, 5) = 7",
                "flaw(0, 6) = 8; flaw(0, 7) = 9; flaw(0, 8) = 10; flaw(0, 9)" + FULL, "flaw(0, 8)" + NOT_NOW,
                "flaw(0, 50)" + NO_INDEX, "cloth(60, 1) = 1; flaw(1, 9) = 1");
        Script.run("30 ahead of the last cut", COVER, "flaw(0, 329)" + NOT_NOW, "flaw(0, 0)" + NOT_NOW,
                "flaw(0, 330) = 1; flaw(0, 330)" + NOT_NOW, "open(0, 4) = 1; flaw(0, 329)" + NOT_NOW,
                "flaw(0, 599) = 2");
        Script.run("30 flaws cut away still count", LAYER,
                "cloth(600, 1) = 0; flaw(0, 0) = 1; cover(0, 0, 0) = 331; flaw(0, 0)" + NOT_NOW,
                "flaw(0, 330)" + NOT_NOW, "flaw(0, 331) = 2");
    }

    private static void left() {
        Script.run("31 left", "left(0)" + NO_INDEX, "cloth(50, 1) = 0; left(0) = 50; left(1)" + NO_INDEX,
                "left(-1)" + NO_INDEX, "flaw(0, 49) = 1; left(0) = 50");
        Script.run("31 behind the last cut", COVER,
                "left(0) = 270; open(0, 0) = 5; left(0) = 270; cloth(50, 1) = 1; left(1) = 50");
        Script.run("31 cloth ahead of a match is gone, too", LAYER,
                "cloth(600, 60) = 0; cover(0, 0, 7) = 357; left(0) = 243");
    }

    private static void panel() {
        Script.run("32 panel", "panel(0, 0)" + NO_INDEX, LAYER, "panel(0, 0)" + NONE, "panel(1, 0)" + NO_INDEX,
                "panel(-1, -1)" + NO_INDEX,
                "cloth(600, 7) = 0; flaw(0, 30) = 1; cover(0, 0, 3) = 365; panel(0, 0) = 31",
                "panel(0, 1) = 143; panel(0, 2) = 255; panel(0, 3)" + NONE, "panel(0, -1)" + NONE,
                "panel(0, 6)" + NONE, "use(0, 9999) = 54; panel(0, 2) = 255; open(0, 4) = 1; panel(0, 0)" + NONE);
    }

    private static void use() {
        Script.run("33 use", "use(0, 1)" + NO_INDEX, LAYER, "use(0, 1)" + NOT_NOW, "use(0, 0)" + WRONG,
                "use(1, 0)" + NO_INDEX, "hours(0)" + NOT_NOW);
        Script.run("33 hours", COVER, "use(0, 0)" + WRONG, "use(0, 10000)" + WRONG, "use(0, -5)" + WRONG,
                "use(0, 2000) = 24; use(0, 1) = 0; hours(0) = 2001; sign(0) = 5; use(0, 9999) = 36",
                "hours(0) = 12000; thick(0, 0) = 20");
        String tenTimes = "use(0, 9999) = 54; use(0, 9999) = 12; use(0, 9999) = 6; use(0, 9999) = 6; use(0, 9999) = 0;"
                + "use(0, 9999) = 0; use(0, 9999) = 0; use(0, 9999) = 6; use(0, 9999) = 0; use(0, 9999) = 0;";
        Script.run("33 100000 hours in all", COVER, tenTimes, "hours(0) = 99990; use(0, 11)" + NOT_NOW,
                "use(0, 10000)" + WRONG, "use(0, 10) = 0; hours(0) = 100000; use(0, 1)" + NOT_NOW,
                "pound(0, 1)" + NOT_NOW,
                "open(0, 4) = 1; cloth(2000, 1) = 1; cover(0, 1, 0) = 288; hours(0) = 0; use(0, 9999) = 0");
        Script.run("33 all layers get hours", SPRINGS,
                "layer(0, 'd', 20, 1) = 2; sign(0) = 3; layer(0, 'f', 20, 1) = 3; sign(0) = 4",
                "cloth(2000, 1) = 0; cover(0, 0, 0) = 360; use(0, 100) = 42; thick(0, 0) = 15", "thick(0, 1) = 18");
        Script.run("33 a top of 0 sinks no more", SPRINGS,
                "tie(0) = 2; pull(0, true, 0, 10) = 100; sign(0) = 3; layer(0, 'd', 20, 1) = 3; sign(0) = 4",
                "buttons(0) = 4; draw(0, 0, 30) = 1; draw(0, 1, 28) = 2; sign(0) = 5; cloth(2000, 1) = 0",
                "cover(0, 0, 0) = 300; use(0, 100) = 22");
    }

    private static void pound() {
        Script.run("34 pound", "pound(0, 1)" + NO_INDEX, LAYER, "pound(0, 1)" + NOT_NOW, "pound(0, 0)" + WRONG,
                "pound(1, 0)" + NO_INDEX);
        Script.run("34 blows", COVER, "pound(0, 0)" + WRONG, "pound(0, 3001)" + WRONG, "pound(0, -1)" + WRONG,
                "pound(0, 2147483647)" + WRONG,
                "pound(0, 1) = 0; hours(0) = 3; use(0, 1997) = 24; pound(0, 500) = 12; hours(0) = 3500",
                "thick(0, 0) = 24; pound(0, 3000) = 24; hours(0) = 12500");
        Script.run("34 100000 hours in all", COVER,
                "pound(0, 3000) = 54; pound(0, 3000) = 12; pound(0, 3000) = 6; pound(0, 3000) = 6",
                "pound(0, 3000) = 0; pound(0, 3000) = 0; pound(0, 3000) = 0; pound(0, 3000) = 6",
                "pound(0, 3000) = 0; pound(0, 3000) = 0; pound(0, 3000) = 0; hours(0) = 99000",
                "pound(0, 334)" + NOT_NOW, "pound(0, 333) = 0; hours(0) = 99999; pound(0, 1)" + NOT_NOW,
                "use(0, 1) = 0; pound(0, 3001)" + WRONG);
    }

    private static void hours() {
        Script.run("35 hours", "hours(0)" + NO_INDEX, LAYER, "hours(0)" + NOT_NOW, "hours(1)" + NO_INDEX,
                "hours(-1)" + NO_INDEX);
        Script.run("35 since it was closed last", COVER,
                "hours(0) = 0; use(0, 5) = 0; hours(0) = 5; pound(0, 5) = 0; hours(0) = 20; open(0, 4) = 1",
                "hours(0)" + NOT_NOW,
                "cloth(2000, 1) = 1; cover(0, 1, 0) = 330; hours(0) = 0; use(0, 6) = 0; hours(0) = 6");
    }

    private static void land() {
        Script.run("36 land", "land(-1, 'h', 1)" + NO_INDEX, "land(4, 'x', 9)" + NO_INDEX,
                "land(0, 'x', 1)" + WRONG, "land(0, 'F', 1)" + WRONG, "land(0, ' ', 1)" + WRONG,
                "land(0, 'f', -1)" + WRONG, "land(0, 'f', 5)" + WRONG,
                "land(0, 'f', 0) = 4; land(0, 'h', 4) = 0; land(0, 'd', 3) = 4; land(0, '-', 2) = 3",
                "land(0, '-', 2) = 2; land(3, '-', 0) = 4; land(1, 'f', 1) = 4; land(0, '-', 4) = 2");
    }

    private static void burns() {
        Script.run("37 burns", "burns(0, 0)" + NO_INDEX, TIES, "burns(0, 0) = false; burns(0, 4)" + NO_INDEX,
                "burns(0, -1)" + NO_INDEX, "burns(1, 0)" + NO_INDEX,
                "land(0, '-', 0) = 4; burns(0, 0) = false; land(1, 'f', 4) = 4; burns(0, 1) = false",
                "layer(0, 'f', 10, 1) = 3; burns(0, 0) = true; burns(0, 1) = true; burns(0, 2) = false",
                "land(2, '-', 1) = 4; burns(0, 2) = false; sign(0) = 4; layer(0, 'd', 10, 1) = 4",
                "burns(0, 1) = false; burns(0, 0) = true; land(1, 'd', 4) = 4; burns(0, 1) = true",
                "sign(0) = 5; layer(0, 'f', 10, 1) = 5; burns(0, 1) = false; burns(0, 2) = true",
                "land(2, 'h', 2) = 1; burns(0, 2) = false; sign(0) = 6; layer(0, 'h', 10, 1) = 6",
                "burns(0, 2) = true; land(2, '-', 2) = 2; burns(0, 2) = false; open(0, 3) = 4",
                "burns(0, 0) = false; burns(0, 3) = false");
    }

    private static void tack() {
        Script.run("38 tack", "tack(0, 0, 1800)" + NO_INDEX, TIES, "tack(0, 0, 1800)" + NONE,
                "tack(0, 0, 0)" + NONE, "tack(1, 0, 0)" + NO_INDEX,
                "layer(0, 'f', 10, 1) = 3; tack(0, 0, 1699)" + WRONG, "tack(0, 0, 2101)" + WRONG,
                "tack(0, 0, 0)" + WRONG, "tack(0, -1, 1800)" + NONE, "tack(0, 1, 1800)" + NONE,
                "tack(0, 1, 1)" + NONE,
                "tack(0, 0, 1700) = 0; tack(0, 0, 2100) = 1700; tack(0, 0, 1900) = 2100; sign(0) = 4",
                "layer(0, 'f', 10, 1) = 4; tack(0, 1, 1800) = 0; tack(0, 0, 1800) = 1900; open(0, 4) = 1",
                "sign(0)" + NOT_NOW, "layer(0, 'f', 10, 1) = 4; tack(0, 1, 1800) = 0");
    }

    private static void quarrels() {
        Script.run("39 quarrels", "quarrels(0)" + NO_INDEX, TIES, "quarrels(0) = 0; quarrels(1)" + NO_INDEX,
                "layer(0, 'f', 10, 1) = 3; sign(0) = 4; layer(0, 'f', 10, 1) = 4; sign(0) = 5",
                "layer(0, 'f', 10, 1) = 5; sign(0) = 6; layer(0, 'h', 10, 1) = 6; quarrels(0) = 0",
                "tack(0, 0, 2000) = 0; quarrels(0) = 0; tack(0, 3, 1999) = 0; quarrels(0) = 1",
                "tack(0, 3, 2000) = 1999; quarrels(0) = 0; tack(0, 3, 2001) = 2000; quarrels(0) = 0",
                "tack(0, 1, 1900) = 0; quarrels(0) = 1; tack(0, 2, 1800) = 0; quarrels(0) = 3",
                "tack(0, 3, 1700) = 2001; quarrels(0) = 6; open(0, 5) = 2; quarrels(0) = 1");
    }

    private static void promise() {
        Script.run("40 promise", "promise(0, 0)" + NO_INDEX, SEAT, "promise(0, -1)" + WRONG,
                "promise(0, 101)" + WRONG, "promise(1, -1)" + NO_INDEX,
                "promise(0, 100) = 20; promise(0, 0) = 100; promise(0, 20) = 0; seat(1, 1) = 1",
                "promise(1, 5) = 20; promise(0, 20) = 20");
        Script.run("40 a promise stays when opened", COVER,
                "promise(0, 33) = 20; open(0, 0) = 5; promise(0, 1) = 33");
    }

    private static void holds() {
        Script.run("41 holds", "holds(0)" + NO_INDEX, LAYER, "holds(0)" + NOT_NOW, "holds(1)" + NO_INDEX,
                "holds(-1)" + NO_INDEX);
        Script.run("41 cut, and to the last one", COVER,
                "holds(0) = true; promise(0, 0) = 20; holds(0) = true; use(0, 2000) = 24; holds(0) = false",
                "promise(0, 4) = 0; holds(0) = false; promise(0, 5) = 4; holds(0) = true; promise(0, 100) = 5",
                "holds(0) = true; use(0, 1) = 0; sign(0) = 5; holds(0) = true");
        Script.run("41 just so many hundredths",
                "seat(5, 4) = 0; web(0, 4) = 0; sign(0) = 1; spring(0, 50, 3) = 1; sign(0) = 2",
                "layer(0, 'd', 50, 1) = 2; sign(0) = 3; cloth(2000, 1) = 0; cover(0, 0, 0) = 700",
                "use(0, 5) = 20; promise(0, 1) = 20; holds(0) = true; use(0, 5) = 20; holds(0) = false",
                "promise(0, 2) = 1; holds(0) = true");
        Script.run("41 hundredths of a great crown",
                "seat(6, 6) = 0; web(0, 4) = 0; sign(0) = 1; spring(0, 20, 3) = 1; sign(0) = 2",
                "layer(0, 'd', 60, 1) = 2; sign(0) = 3; cloth(2000, 1) = 0; cover(0, 0, 0) = 840",
                "use(0, 2900) = 1044; promise(0, 36) = 20; holds(0) = false; promise(0, 37) = 36",
                "holds(0) = true");
        Script.run("41 the crown is the one of the last closing", COVER,
                "use(0, 9999) = 54; promise(0, 5) = 20; holds(0) = false; open(0, 4) = 1; cloth(2000, 1) = 1",
                "cover(0, 1, 0) = 303; holds(0) = true; promise(0, 0) = 5; holds(0) = true");
    }

    private static void quote() {
        Script.run("42 quote", "quote(0)" + NO_INDEX, SEAT, "quote(0) = 0; quote(1)" + NO_INDEX,
                "web(0, 4) = 0; quote(0) = 0; sign(0) = 1; spring(0, 60, 3) = 1; quote(0) = 30; sign(0) = 2",
                "tie(0) = 2; quote(0) = 30; pull(0, true, 0, 98) = 0; quote(0) = 32",
                "pull(0, false, 1, 10) = 150; quote(0) = 34; pull(0, true, 0, 99) = 0; quote(0) = 32",
                "sign(0) = 3; layer(0, 'd', 7, 1) = 3; quote(0) = 39; sign(0) = 4; layer(0, 'f', 8, 1) = 4",
                "quote(0) = 55; sign(0) = 5; layer(0, 'h', 9, 1) = 5; quote(0) = 82; sign(0) = 6",
                "buttons(0) = 6; quote(0) = 82; draw(0, 0, 3) = 1; quote(0) = 86; draw(0, 0, 4) = 1",
                "quote(0) = 86; draw(0, 1, 30) = 2; quote(0) = 90; sign(0) = 7; cloth(600, 60) = 0",
                "cover(0, 0, 0) = 344; quote(0) = 402; use(0, 100) = 6; quote(0) = 402; open(0, 7) = 1",
                "quote(0) = 90");
    }

    private static void checksum() {
        Script.run("43 checksum",
                "checksum() = 7; seat(1, 1) = 0; checksum() = 6727; web(0, 1) = 0; checksum() = 6758",
                "sign(0) = 1; checksum() = 6758; spring(0, 20, 1) = 1; checksum() = 6809; seat(1, 1) = 1",
                "checksum() = 6543449");
        Script.run("43 by columns, then rows",
                "seat(1, 2) = 0; web(0, 1) = 0; sign(0) = 1; spring(0, 20, 1) = 1; change(0, 1, 30, 1) = 20",
                "checksum() = 211109");
        Script.run("43 by columns, then rows",
                "seat(2, 2) = 0; web(0, 1) = 0; sign(0) = 1; spring(0, 20, 1) = 1; change(0, 1, 30, 1) = 20",
                "change(0, 10, 40, 1) = 20; checksum() = 202877009");
    }

    private static void closedShare() {
        Script.run("44 closedShare", "closedShare()" + NONE, COVER,
                "closedShare() = 1.0; seat(1, 1) = 1; closedShare() = 0.5; seat(1, 1) = 2",
                "closedShare() = 0.33333334; seat(1, 1) = 3; closedShare() = 0.25; sign(0) = 5",
                "closedShare() = 0.25; open(0, 4) = 1; closedShare() = 0.0");
    }

    private static void meanTop() {
        Script.run("45 meanTop", "meanTop(0)" + NO_INDEX, SEAT, "meanTop(0) = 0.0; meanTop(1)" + NO_INDEX,
                "meanTop(-1)" + NO_INDEX, "web(0, 4) = 0; sign(0) = 1; spring(0, 60, 3) = 1; meanTop(0) = 60.0",
                "change(0, 11, 80, 6) = 60; meanTop(0) = 63.333333333333336");
        Script.run("45 with layers and buttons", BUTTONS,
                "meanTop(0) = 90.0; draw(0, 0, 3) = 1; meanTop(0) = 89.5");
    }

    private static void isSound() {
        Script.run("46 isSound", "isSound() = true", SEAT, "isSound() = true; web(0, 4) = 0; isSound() = true");
        Script.run("46 isSound with all there is", COVER,
                "body() = 0; mass(0, 0, 99) = 0; mass(0, 55, 99) = 0; isSound() = true; seat(6, 6) = 1",
                "web(1, 9) = 0; sign(1) = 1; spring(1, 99, 9) = 1; body() = 1; mass(1, 22, 99) = 0",
                "isSound() = true; use(0, 9999) = 54; isSound() = true; open(0, 1) = 4; isSound() = true");
    }
}
