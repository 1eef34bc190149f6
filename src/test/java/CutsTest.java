import java.math.BigInteger;
import java.util.ArrayList;
import java.util.List;

/**
 * Each place where the document cuts a division or divides at all, over all that can be divided
 * there, against an answer that is come to by counting; and the checksum's wrap-around.
 */
public final class CutsTest {
    public static void main(String[] args) {
        springsSink();
        layersSink();
        worldOfDistances();
        layersSettle();
        settledJustSo();
        hundredths();
        closedShares();
        meanTops();
        checksums();
        checksumWrapsAround();
        Script.end("CutsTest");
    }

    /** How often a divisor goes into a number, told by counting. */
    private static int cut(long number, long divisor) {
        int times = 0;
        for (long rest = number; rest >= divisor; rest -= divisor) {
            times++;
        }
        return times;
    }

    /** A workshop with a seat of one cell, its layers signed. */
    private static Springseat oneCell(int tension, int height, int firmness, int... thicknesses) {
        Springseat workshop = new Springseat();
        workshop.seat(1, 1);
        workshop.web(0, tension);
        workshop.sign(0);
        workshop.spring(0, height, firmness);
        workshop.sign(0);
        for (int thickness : thicknesses) {
            workshop.layer(0, 'd', thickness, 1);
            workshop.sign(0);
        }
        return workshop;
    }

    /** 10 times the mass, divided by firmness and tension; and 100 times it, divided by 10 more than that. */
    private static void springsSink() {
        for (int tension = 1; tension <= 9; tension++) {
            for (int firmness = 1; firmness <= 9; firmness++) {
                for (int height : new int[] {20, 99}) {
                    Springseat workshop = oneCell(tension, height, firmness);
                    workshop.body();
                    for (int mass = 0; mass <= 99; mass++) {
                        String name = " of " + mass + " on " + height + ", " + firmness + ", " + tension;
                        int due = Math.min(height, cut(10 * mass, firmness + tension));
                        workshop.mass(0, 0, mass);
                        Script.same("25 sinks" + name, workshop.sinks(0, 0, 0), due);
                        int pressure = cut(100 * mass, 10 + due);
                        Script.same("26 pressure" + name, workshop.pressure(0, 0, 0), pressure);
                        Script.same("27 comfort" + name, workshop.comfort(0, 0), mass > 0 && pressure <= 100 ? 1 : 0);
                    }
                }
            }
        }
    }

    /** The mass times the thickness, divided by 20 times the firmness. */
    private static void layersSink() {
        char[] kinds = {'h', 'f', 'd'};
        for (int firmness = 1; firmness <= 9; firmness++) {
            for (int thickness = 5; thickness <= 60; thickness++) {
                Springseat workshop = oneCell(9, 20, 9);
                workshop.layer(0, kinds[thickness % 3], thickness, firmness);
                workshop.body();
                for (int mass = 0; mass <= 99; mass++) {
                    int spring = Math.min(20, cut(10 * mass, 18));
                    int due = spring + Math.min(thickness, cut(mass * thickness, 20 * firmness));
                    workshop.mass(0, 0, mass);
                    Script.same("25 sinks of " + mass + " on a layer of " + thickness + ", " + firmness,
                            workshop.sinks(0, 0, 0), due);
                }
            }
        }
    }

    /** One mass in each cell in turn, and each cell 8 less for each cell on the way to it. */
    private static void worldOfDistances() {
        for (int from = 0; from < 36; from++) {
            Springseat workshop = new Springseat();
            workshop.seat(6, 6);
            workshop.web(0, 1);
            workshop.sign(0);
            workshop.spring(0, 99, 1);
            workshop.body();
            workshop.mass(0, from / 6 * 10 + from % 6, 14);
            for (int to = 0; to < 36; to++) {
                int way = Math.abs(from / 6 - to / 6) + Math.abs(from % 6 - to % 6);
                Script.same("25 from " + from + " to " + to, workshop.sinks(0, 0, to / 6 * 10 + to % 6),
                        Math.max(0, 70 - 8 * way));
            }
            Script.same("46 isSound with a mass in " + from, workshop.isSound(), true);
        }
    }

    /** Half of the thickness times the hours, divided by the hours and the firmness, cut once. */
    private static void layersSettle() {
        char[] kinds = {'h', 'f', 'd'};
        int[] resistances = {1000, 400, 100};
        for (int kind = 0; kind < kinds.length; kind++) {
            for (int firmness = 1; firmness <= 9; firmness++) {
                for (int thickness = 5; thickness <= 60; thickness += 4) {
                    settleFour(kinds[kind], resistances[kind] * firmness, firmness, thickness);
                }
            }
        }
    }

    private static void settleFour(char kind, int resistance, int firmness, int thickness) {
        Springseat workshop = oneCell(1, 20, 1);
        for (int layer = 0; layer < 4; layer++) {
            workshop.layer(0, kind, thickness + layer, firmness);
            workshop.sign(0);
        }
        workshop.cloth(2000, 1);
        workshop.cover(0, 0, 0);
        int hours = 0;
        int settled = 0;
        int step = 1;
        for (int calls = 15; calls + 5 <= Script.MOST_CALLS && hours + step <= 100000; calls += 5) {
            int less = workshop.use(0, step);
            hours += step;
            int now = 0;
            for (int layer = 0; layer < 4; layer++) {
                int due = settledOf(thickness + layer, hours, resistance);
                now += due;
                Script.same("19 thick of " + kind + ", " + (thickness + layer) + ", " + firmness + " used for " + hours,
                        workshop.thick(0, layer), thickness + layer - due);
            }
            Script.same("33 less of " + kind + ", " + thickness + ", " + firmness + " used for " + hours, less, now - settled);
            settled = now;
            step = 1 + hours / 20;
        }
    }

    /** The greatest number of which twice as many times the divisor are in the thickness times the hours. */
    private static int settledOf(int thickness, int hours, int resistance) {
        int settled = 0;
        while (2L * (settled + 1) * (hours + resistance) <= (long) thickness * hours) {
            settled++;
        }
        return settled;
    }

    /** From the hour at which one more place is settled, and none the hour before; odd thickness is not halved first. */
    private static void settledJustSo() {
        String closed = "seat(1, 1) = 0; web(0, 1) = 0; sign(0) = 1; spring(0, 20, 1) = 1; sign(0) = 2;";
        String cover = "sign(0) = 3; cloth(600, 1) = 0; cover(0, 0, 0);";
        Script.run("19 down of 5: settles 1 where 3 h are 200", closed, "layer(0, 'd', 5, 1) = 2", cover,
                "use(0, 66) = 0; thick(0, 0) = 5; use(0, 1) = 1; thick(0, 0) = 4");
        Script.run("19 down of 5: settles 2 where h are 400", closed, "layer(0, 'd', 5, 1) = 2", cover,
                "use(0, 399) = 1; thick(0, 0) = 4; use(0, 1) = 1; thick(0, 0) = 3; use(0, 9999) = 0");
        Script.run("19 foam of 60, 9: settles 15 at just 3600 hours", closed, "layer(0, 'f', 60, 9) = 2", cover,
                "use(0, 3599) = 14; thick(0, 0) = 46; use(0, 1) = 1; thick(0, 0) = 45");
        Script.run("19 hair of 60, 9: settles 15 at just 9000 hours", closed, "layer(0, 'h', 60, 9) = 2", cover,
                "use(0, 8999) = 14; thick(0, 0) = 46; use(0, 1) = 1; thick(0, 0) = 45");
        Script.run("19 the first hour of the softest and thickest layer", closed, "layer(0, 'd', 60, 1) = 2", cover,
                "use(0, 3) = 0; thick(0, 0) = 60; use(0, 1) = 1; thick(0, 0) = 59");
        Script.run("33 layers cut each its own", closed, "layer(0, 'd', 59, 1) = 2; sign(0) = 3; layer(0, 'd', 59, 1) = 3",
                cover.replace("= 3", "= 4"), "use(0, 3) = 0; use(0, 1) = 2; thick(0, 0) = 58; thick(0, 1) = 58");
    }

    /** So many hundredths of the crown, cut, for each number of them. */
    private static void hundredths() {
        for (int height = 20; height <= 99; height += 7) {
            Springseat workshop = oneCell(1, height, 1, 60);
            workshop.cloth(2000, 1);
            workshop.cover(0, 0, 0);
            int crown = height + 60;
            int lost = 0;
            int next = 0;
            for (int calls = 9; calls + 3 <= Script.MOST_CALLS; calls += 2) {
                if (next % 101 == 0) {
                    lost += workshop.use(0, 30);
                    calls++;
                }
                workshop.promise(0, next % 101);
                Script.same("41 " + next % 101 + " hundredths of " + crown + ", less by " + lost, workshop.holds(0),
                        lost <= cut(crown * (next % 101), 100));
                next++;
            }
        }
    }

    private static void closedShares() {
        for (int seats = 1; seats <= 4; seats++) {
            for (int closed = 0; closed <= seats; closed++) {
                List<String> calls = new ArrayList<>(List.of("cloth(2000, 1)"));
                for (int seat = 0; seat < seats; seat++) {
                    calls.add("seat(1, 1)");
                }
                for (int seat = seats - closed; seat < seats; seat++) {
                    for (String call : List.of("web(S, 1)", "sign(S)", "spring(S, 20, 1)", "sign(S)", "layer(S, 'd', 5, 1)",
                            "sign(S)", "cover(S, 0, 0)")) {
                        calls.add(call.replace("S", "" + seat));
                    }
                }
                Script.same("44 closedShare of " + closed + " of " + seats, Script.after(calls).closedShare(),
                        (float) closed / (float) seats);
            }
        }
    }

    private static void meanTops() {
        for (int columns = 1; columns <= 6; columns++) {
            for (int rows = 1; rows <= 6; rows++) {
                Springseat workshop = new Springseat();
                workshop.seat(columns, rows);
                workshop.web(0, 1);
                workshop.sign(0);
                workshop.spring(0, 50, 1);
                workshop.change(0, 10 * columns - 10, 51, 1);
                workshop.change(0, rows - 1, 53, 1);
                int added = columns == 1 && rows == 1 ? 3 : 4;
                Script.same("45 meanTop of " + columns + " columns, " + rows + " rows", workshop.meanTop(0),
                        (double) (50 * columns * rows + added) / (double) (columns * rows));
            }
        }
    }

    /** Calls that make seats with tops that differ, and the sum over them, come to without an end to its places. */
    private static void checksums() {
        for (int seats = 0; seats <= 4; seats++) {
            for (int columns = 1; columns <= 6; columns++) {
                for (int rows = 1; rows <= 6; rows++) {
                    checksumOf(seats, columns, rows);
                }
            }
        }
    }

    private static void checksumOf(int seats, int columns, int rows) {
        Springseat workshop = new Springseat();
        BigInteger due = BigInteger.valueOf(7);
        for (int seat = 0; seat < seats; seat++) {
            workshop.seat(columns, rows);
            workshop.web(seat, 1);
            workshop.sign(seat);
            workshop.spring(seat, 20, 1);
            due = next(due, 2);
            for (int column = 0; column < columns; column++) {
                for (int row = 0; row < rows; row++) {
                    int height = 20 + seat * 12 + column * 7 + row;
                    workshop.change(seat, 10 * column + row, height, 1);
                    due = next(due, height);
                }
            }
        }
        Script.same("43 checksum of " + seats + " seats, " + columns + " columns, " + rows + " rows", workshop.checksum(),
                due.longValue());
    }

    private static BigInteger next(BigInteger sum, int more) {
        return sum.multiply(BigInteger.valueOf(31)).add(BigInteger.valueOf(more));
    }

    private static void checksumWrapsAround() {
        // 7 times 31 to the 12th is the last such power of 31 that has room in a long.
        Script.run("43 the last sum with room", "seat(1, 5) = 0; checksum() = 6212525767; seat(1, 5) = 1",
                "checksum() = 5513639486519848327");
        Script.run("43 the first sum that wraps around", "seat(1, 5) = 0; seat(1, 6) = 1; checksum() = 4902127418729333593");
        Script.run("43 wrapped around to below 0", "seat(1, 5) = 0; seat(1, 5) = 1; seat(1, 3) = 2",
                "checksum() = -3594900192943074809; seat(1, 1) = 3; checksum() = -5157943634608739257");
        Script.run("43 wrapped around again and again", "seat(6, 6) = 0; seat(6, 6) = 1; seat(6, 6) = 2; seat(6, 6) = 3",
                "checksum() = " + BigInteger.valueOf(31).pow(148).multiply(BigInteger.valueOf(7)).longValue());
    }
}
