import java.util.ArrayList;
import java.util.List;
import java.util.Map;
import java.util.NoSuchElementException;
import java.util.TreeMap;
import java.util.TreeSet;

/**
 * The document once more, told as plainly as can be, without a thought for speed or room: steps are
 * a text that a pattern knows, cloth is a row of places, sinkings spread until none changes.
 */
final class Model {
    private static final String ORDER = "(w(s(t?(l{1,4}(b?c?)?)?)?)?)?";

    final List<Seat> seats = new ArrayList<>();
    final List<Map<Integer, Integer>> bodies = new ArrayList<>();
    final List<Cloth> cloths = new ArrayList<>();
    private final char[] barred = {'-', '-', '-', '-'};
    private final int[] foam = {4, 4, 4, 4};

    static final class Layer {
        char kind;
        int thickness;
        int firmness;
        int hours;
        int year;

        int now() {
            int per = kind == 'h' ? 1000 : kind == 'f' ? 400 : 100;
            double settled = thickness / 2.0 * hours / (hours + per * firmness);
            return thickness - (int) Math.floor(settled + 1e-9);
        }
    }

    static final class Cloth {
        int length;
        int repeat;
        int cut;
        TreeSet<Integer> flaws = new TreeSet<>();
    }

    static final class Seat {
        int columns;
        int rows;
        String letters = "";
        int signed;
        int tension;
        Map<Integer, int[]> springs = new TreeMap<>();
        Map<String, Integer> ties = new TreeMap<>();
        List<Layer> layers = new ArrayList<>();
        Map<Integer, Integer> buttons = new TreeMap<>();
        List<Integer> panels = new ArrayList<>();
        int panelLength;
        int crown;
        int hours;
        int hundredths = 20;

        List<Integer> cells() {
            List<Integer> cells = new ArrayList<>();
            for (int column = 0; column < columns; column++) {
                for (int row = 0; row < rows; row++) {
                    cells.add(10 * column + row);
                }
            }
            return cells;
        }

        int stands(int cell) {
            if (!springs.containsKey(cell)) {
                return 0;
            }
            int least = springs.get(cell)[0];
            least = Math.min(least, ties.getOrDefault("column" + cell / 10, 99));
            return Math.min(least, ties.getOrDefault("row" + cell % 10, 99));
        }

        int top(int cell) {
            int top = stands(cell) - buttons.getOrDefault(cell, 0);
            for (Layer layer : layers) {
                top += layer.now();
            }
            return Math.max(top, 0);
        }

        int sum() {
            return cells().stream().mapToInt(this::top).sum();
        }

        boolean closed() {
            return letters.endsWith("c");
        }

        Map<Integer, Integer> sinkings(Map<Integer, Integer> body) {
            Map<Integer, Integer> sunk = new TreeMap<>();
            for (int cell : cells()) {
                int mass = body.getOrDefault(cell, 0);
                int own = Math.min(stands(cell), 10 * mass / (springs.get(cell)[1] + tension));
                for (Layer layer : layers) {
                    own += Math.min(layer.now(), mass * layer.now() / (20 * layer.firmness));
                }
                sunk.put(cell, own);
            }
            boolean changes = true;
            while (changes) {
                changes = false;
                for (int cell : cells()) {
                    for (int beside : new int[] {cell - 10, cell + 10, cell - 1, cell + 1}) {
                        if (sunk.containsKey(beside) && sunk.get(beside) - 8 > sunk.get(cell)) {
                            sunk.put(cell, sunk.get(beside) - 8);
                            changes = true;
                        }
                    }
                }
            }
            return sunk;
        }
    }

    private static void need(boolean is, RuntimeException otherwise) {
        if (!is) {
            throw otherwise;
        }
    }

    private static void among(int number, int count) {
        need(number >= 0 && number < count, new IndexOutOfBoundsException());
    }

    private static void range(int number, int least, int most) {
        need(number >= least && number <= most, new IllegalArgumentException());
    }

    private Seat at(int seat) {
        among(seat, seats.size());
        return seats.get(seat);
    }

    private Seat at(int seat, int cell) {
        Seat s = at(seat);
        need(s.cells().contains(cell), new IndexOutOfBoundsException());
        return s;
    }

    private static void next(Seat s, char letter) {
        need(s.signed == s.letters.length() && (s.letters + letter).matches(ORDER), new UnsupportedOperationException());
    }

    private static int add(Seat s, char letter) {
        s.letters += letter;
        return s.letters.length() - 1;
    }

    private static void inWork(Seat s, String letter) {
        need(s.letters.endsWith(letter) && s.signed < s.letters.length(), new UnsupportedOperationException());
    }

    int seat(int columns, int rows) {
        range(columns, 1, 6);
        range(rows, 1, 6);
        need(seats.size() < 4, new IllegalStateException());
        Seat s = new Seat();
        s.columns = columns;
        s.rows = rows;
        seats.add(s);
        return seats.size() - 1;
    }

    int web(int seat, int tension) {
        Seat s = at(seat);
        range(tension, 1, 9);
        next(s, 'w');
        s.tension = tension;
        return add(s, 'w');
    }

    int spring(int seat, int height, int firmness) {
        Seat s = at(seat);
        range(height, 20, 99);
        range(firmness, 1, 9);
        next(s, 's');
        s.cells().forEach(cell -> s.springs.put(cell, new int[] {height, firmness}));
        return add(s, 's');
    }

    int change(int seat, int cell, int height, int firmness) {
        Seat s = at(seat, cell);
        range(height, 20, 99);
        range(firmness, 1, 9);
        inWork(s, "s");
        return s.springs.put(cell, new int[] {height, firmness})[0];
    }

    int tie(int seat) {
        Seat s = at(seat);
        next(s, 't');
        return add(s, 't');
    }

    int pull(int seat, boolean isColumn, int line, int height) {
        Seat s = at(seat);
        among(line, isColumn ? s.columns : s.rows);
        range(height, 10, 99);
        inWork(s, "t");
        int before = s.cells().stream().mapToInt(s::stands).sum();
        s.ties.put((isColumn ? "column" : "row") + line, height);
        int behind = s.cells().stream().mapToInt(s::stands).sum();
        return before > behind ? before - behind : behind - before;
    }

    int layer(int seat, char kind, int thickness, int firmness) {
        Seat s = at(seat);
        need("hfd".indexOf(kind) >= 0, new IllegalArgumentException());
        range(thickness, 5, 60);
        range(firmness, 1, 9);
        next(s, 'l');
        Layer layer = new Layer();
        layer.kind = kind;
        layer.thickness = thickness;
        layer.firmness = firmness;
        s.layers.add(layer);
        return add(s, 'l');
    }

    int buttons(int seat) {
        Seat s = at(seat);
        next(s, 'b');
        return add(s, 'b');
    }

    int draw(int seat, int cell, int depth) {
        Seat s = at(seat, cell);
        range(depth, 1, 30);
        inWork(s, "b");
        need(s.buttons.size() < 12 || s.buttons.containsKey(cell), new IllegalStateException());
        s.buttons.put(cell, depth);
        return s.buttons.size();
    }

    int cover(int seat, int cloth, int match) {
        Seat s = at(seat);
        among(cloth, cloths.size());
        Cloth c = cloths.get(cloth);
        range(match, 0, c.repeat - 1);
        next(s, 'c');
        int length = 10 * s.rows + s.cells().stream().mapToInt(s::top).max().orElse(0);
        List<Integer> panels = new ArrayList<>();
        int place = c.cut;
        while (panels.size() < s.columns) {
            need(place + length <= c.length, new NoSuchElementException());
            if (place % c.repeat == match && c.flaws.subSet(place, place + length).isEmpty()) {
                panels.add(place);
                place += length;
            } else {
                place++;
            }
        }
        c.cut = place;
        s.panels = panels;
        s.panelLength = length;
        s.crown = s.sum();
        s.hours = 0;
        add(s, 'c');
        return place;
    }

    int sign(int seat) {
        Seat s = at(seat);
        need(s.signed < s.letters.length(), new UnsupportedOperationException());
        return ++s.signed;
    }

    int open(int seat, int steps) {
        Seat s = at(seat);
        range(steps, 0, s.letters.length());
        String gone = s.letters.substring(steps);
        s.letters = s.letters.substring(0, steps);
        s.signed = Math.min(s.signed, steps);
        if (gone.contains("c")) {
            s.panels = new ArrayList<>();
        }
        if (gone.contains("b")) {
            s.buttons.clear();
        }
        while (s.layers.size() > s.letters.replaceAll("[^l]", "").length()) {
            s.layers.remove(s.layers.size() - 1);
        }
        if (gone.contains("t")) {
            s.ties.clear();
        }
        if (gone.contains("s")) {
            s.springs.clear();
        }
        return gone.length();
    }

    int steps(int seat) {
        return at(seat).letters.length();
    }

    char step(int seat, int step) {
        Seat s = at(seat);
        need(step >= 0 && step < s.letters.length(), new NoSuchElementException());
        return s.letters.charAt(step);
    }

    boolean isSigned(int seat, int step) {
        Seat s = at(seat);
        need(step >= 0 && step < s.letters.length(), new NoSuchElementException());
        return step < s.signed;
    }

    boolean isClosed(int seat) {
        return at(seat).closed();
    }

    int stands(int seat, int cell) {
        return at(seat, cell).stands(cell);
    }

    private Layer layerAt(int seat, int layer) {
        Seat s = at(seat);
        need(layer >= 0 && layer < s.layers.size(), new NoSuchElementException());
        return s.layers.get(layer);
    }

    int thick(int seat, int layer) {
        return layerAt(seat, layer).now();
    }

    int top(int seat, int cell) {
        return at(seat, cell).top(cell);
    }

    int folds(int seat, boolean lies) {
        Seat s = at(seat);
        int count = 0;
        for (int cell : s.buttons.keySet()) {
            for (int other : s.buttons.keySet()) {
                boolean slantwise = Math.abs(cell / 10 - other / 10) == 1 && Math.abs(cell % 10 - other % 10) == 1;
                boolean lying = Math.abs(s.buttons.get(cell) - s.buttons.get(other)) < 4;
                if (cell < other && slantwise && (lying || !lies)) {
                    count++;
                }
            }
        }
        return count;
    }

    int buttonAt(int seat, int cell) {
        Seat s = at(seat, cell);
        need(s.buttons.containsKey(cell), new NoSuchElementException());
        return s.buttons.get(cell);
    }

    int body() {
        need(bodies.size() < 3, new IllegalStateException());
        bodies.add(new TreeMap<>());
        return bodies.size() - 1;
    }

    int mass(int body, int cell, int mass) {
        among(body, bodies.size());
        need(cell >= 0 && cell <= 55 && cell % 10 <= 5, new IndexOutOfBoundsException());
        range(mass, 0, 99);
        Integer before = bodies.get(body).put(cell, mass);
        return before == null ? 0 : before;
    }

    private Map<Integer, Integer> sunk(int body, Seat s) {
        need(s.letters.length() > 1, new UnsupportedOperationException());
        return s.sinkings(bodies.get(body));
    }

    int sinks(int body, int seat, int cell) {
        among(body, bodies.size());
        return sunk(body, at(seat, cell)).get(cell);
    }

    int pressure(int body, int seat, int cell) {
        among(body, bodies.size());
        return 100 * bodies.get(body).getOrDefault(cell, 0) / (10 + sinks(body, seat, cell));
    }

    int comfort(int body, int seat) {
        among(body, bodies.size());
        Seat s = at(seat);
        sunk(body, s);
        return (int) s.cells().stream().filter(cell -> bodies.get(body).getOrDefault(cell, 0) > 0
                && pressure(body, seat, cell) <= 100).count();
    }

    int fit(int body, int other, int seat) {
        among(body, bodies.size());
        among(other, bodies.size());
        Seat s = at(seat);
        Map<Integer, Integer> one = sunk(body, s);
        Map<Integer, Integer> two = sunk(other, s);
        return s.cells().stream().mapToInt(cell -> Math.abs(one.get(cell) - two.get(cell))).sum();
    }

    int cloth(int length, int repeat) {
        range(length, 50, 2000);
        range(repeat, 1, 60);
        need(cloths.size() < 4, new IllegalStateException());
        Cloth c = new Cloth();
        c.length = length;
        c.repeat = repeat;
        cloths.add(c);
        return cloths.size() - 1;
    }

    int flaw(int cloth, int place) {
        among(cloth, cloths.size());
        Cloth c = cloths.get(cloth);
        among(place, c.length);
        need(!c.flaws.contains(place) && place >= c.cut, new UnsupportedOperationException());
        need(c.flaws.size() < 10, new IllegalStateException());
        c.flaws.add(place);
        return c.flaws.size();
    }

    int left(int cloth) {
        among(cloth, cloths.size());
        return cloths.get(cloth).length - cloths.get(cloth).cut;
    }

    int panel(int seat, int panel) {
        Seat s = at(seat);
        need(s.closed() && panel >= 0 && panel < s.columns, new NoSuchElementException());
        return s.panels.get(panel);
    }

    private int wear(Seat s, int hours) {
        need(s.closed() && s.hours + hours <= 100000, new UnsupportedOperationException());
        int before = s.sum();
        s.hours += hours;
        s.layers.forEach(layer -> layer.hours += hours);
        return before - s.sum();
    }

    int use(int seat, int hours) {
        Seat s = at(seat);
        range(hours, 1, 9999);
        return wear(s, hours);
    }

    int pound(int seat, int blows) {
        Seat s = at(seat);
        range(blows, 1, 3000);
        return wear(s, 3 * blows);
    }

    int hours(int seat) {
        Seat s = at(seat);
        need(s.closed(), new UnsupportedOperationException());
        return s.hours;
    }

    int land(int land, char kind, int most) {
        among(land, 4);
        need("hfd-".indexOf(kind) >= 0, new IllegalArgumentException());
        range(most, 0, 4);
        int before = foam[land];
        barred[land] = kind;
        foam[land] = most;
        return before;
    }

    boolean burns(int seat, int land) {
        Seat s = at(seat);
        among(land, 4);
        if (s.layers.isEmpty()) {
            return false;
        }
        long foams = s.layers.stream().filter(layer -> layer.kind == 'f').count();
        return s.layers.get(s.layers.size() - 1).kind == barred[land] || foams > foam[land];
    }

    int tack(int seat, int layer, int year) {
        Layer l = layerAt(seat, layer);
        range(year, 1700, 2100);
        int before = l.year;
        l.year = year;
        return before;
    }

    int quarrels(int seat) {
        List<Layer> tacked = at(seat).layers.stream().filter(layer -> layer.year > 0).toList();
        int count = 0;
        for (int lower = 0; lower < tacked.size(); lower++) {
            for (int upper = lower + 1; upper < tacked.size(); upper++) {
                count += tacked.get(upper).year < tacked.get(lower).year ? 1 : 0;
            }
        }
        return count;
    }

    int promise(int seat, int hundredths) {
        Seat s = at(seat);
        range(hundredths, 0, 100);
        int before = s.hundredths;
        s.hundredths = hundredths;
        return before;
    }

    boolean holds(int seat) {
        Seat s = at(seat);
        need(s.closed(), new UnsupportedOperationException());
        return s.sum() >= s.crown - s.crown * s.hundredths / 100;
    }

    int quote(int seat) {
        Seat s = at(seat);
        int sum = 5 * s.springs.size() + 4 * s.buttons.size() + s.panels.size() * s.panelLength;
        for (int tie : s.ties.values()) {
            sum += tie < 99 ? 2 : 0;
        }
        for (Layer layer : s.layers) {
            sum += layer.thickness * (1 + "dfh".indexOf(layer.kind));
        }
        return sum;
    }

    long checksum() {
        long sum = 7;
        for (Seat s : seats) {
            sum = 31 * sum + s.letters.length();
            for (int cell : s.cells()) {
                sum = 31 * sum + s.top(cell);
            }
        }
        return sum;
    }

    float closedShare() {
        need(!seats.isEmpty(), new NoSuchElementException());
        return (float) seats.stream().filter(Seat::closed).count() / (float) seats.size();
    }

    double meanTop(int seat) {
        Seat s = at(seat);
        return (double) s.sum() / (double) (s.columns * s.rows);
    }

    boolean isSound() {
        return true;
    }
}
