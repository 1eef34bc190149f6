/** The document's own example, one run of calls. */
public final class ExampleTest {
    public static void main(String[] args) {
        Script.run("first example",
                "seat(3, 2) = 0; web(0, 4) = 0; sign(0) = 1; spring(0, 60, 3) = 1; change(0, 11, 80, 6) = 60; sign(0) = 2;",
                "tie(0) = 2; pull(0, true, 1, 50) = 40; stands(0, 10) = 50; sign(0) = 3; layer(0, 'h', 30, 5) = 3;",
                "sign(0) = 4; buttons(0) = 4; draw(0, 0, 6) = 1; draw(0, 11, 9) = 2; buttonAt(0, 11) = 9;",
                "folds(0, true) = 1; top(0, 11) = 71; sign(0) = 5; cloth(600, 7) = 0; flaw(0, 30) = 1; cover(0, 0, 3) = 365;",
                "panel(0, 0) = 31; left(0) = 235; isClosed(0) = true; body() = 0; mass(0, 11, 80) = 0; sinks(0, 0, 1) = 66;",
                "pressure(0, 0, 11) = 95; comfort(0, 0) = 1; fit(0, 0, 0) = 0; use(0, 2000) = 24; pound(0, 500) = 12;",
                "hours(0) = 3500; thick(0, 0) = 24; promise(0, 5) = 20; holds(0) = false; quote(0) = 460;",
                "land(2, 'd', 1) = 4; burns(0, 2) = false; tack(0, 0, 1900) = 0; quarrels(0) = 0; steps(0) = 6;",
                "step(0, 2) = t; isSigned(0, 5) = false; open(0, 4) = 2; checksum() = 198623016285; closedShare() = 0.0;",
                "meanTop(0) = 80.66666666666667; isSound() = true");
        Script.end("ExampleTest");
    }
}
