import java.util.ArrayList;
import java.util.Arrays;
import java.util.NoSuchElementException;

/**
 * A workshop of seats, as DOC.md promises it.
 *
 * <p>The face tests what it is given, in the order in which the document lists the exceptions, and
 * only then lets seats, bodies and cloths do the work. Nothing but the face and its own tests ever
 * throws, so a call that throws has changed nothing.
 */
public final class Springseat {

    private static final int MOST_SEATS = 4;
    private static final int MOST_BODIES = 3;
    private static final int MOST_CLOTHS = 4;
    private static final int MOST_LAYERS = 4;
    private static final int MOST_BUTTONS = 12;
    private static final int MOST_FLAWS = 10;
    private static final int LANDS = 4;

    private static final int MOST_LINES = 6;
    private static final int COLUMN_STEP = 10;
    private static final int CELL_NUMBERS = 56;

    private static final int MOST_TENSION = 9;
    private static final int MOST_FIRMNESS = 9;
    private static final int LEAST_SPRING = 20;
    private static final int MOST_SPRING = 99;
    private static final int LEAST_TIE = 10;
    private static final int LOOSE_TIE = 99;
    private static final int LEAST_THICKNESS = 5;
    private static final int MOST_THICKNESS = 60;
    private static final int MOST_DEPTH = 30;
    private static final int LYING_DEPTHS_APART = 3;

    private static final int MOST_MASS = 99;
    private static final int COMFORTABLE_PRESSURE = 100;
    private static final int SLOPE = 8;

    private static final int LEAST_LENGTH = 50;
    private static final int MOST_LENGTH = 2000;
    private static final int MOST_REPEAT = 60;

    private static final int MOST_HOURS = 9999;
    private static final int MOST_BLOWS = 3000;
    private static final int HOURS_A_BLOW = 3;
    private static final int HOURS_IN_ALL = 100000;
    private static final int FIRST_YEAR = 1700;
    private static final int LAST_YEAR = 2100;
    private static final int MOST_HUNDREDTHS = 100;
    private static final int HUNDREDTHS_AT_FIRST = 20;

    private static final char WEBS = 'w';
    private static final char SPRINGS = 's';
    private static final char TIES = 't';
    private static final char LAYER = 'l';
    private static final char BUTTONS = 'b';
    private static final char COVER = 'c';
    private static final char NO_STEP = ' ';

    private static final char HAIR = 'h';
    private static final char FOAM = 'f';
    private static final char DOWN = 'd';
    private static final char NO_KIND = '-';

    private final ArrayList<Seat> seats = new ArrayList<Seat>();
    private final ArrayList<Grid> bodies = new ArrayList<Grid>();
    private final ArrayList<Cloth> cloths = new ArrayList<Cloth>();
    private final ArrayList<Land> lands = new ArrayList<Land>();

    // Sinkings are told anew by each call; these two are used again, so that no call makes its own.
    private final Grid sinking = new Grid();
    private final Grid otherSinking = new Grid();

    public Springseat() {
        for (int land = 0; land < LANDS; land++) {
            lands.add(new Land());
        }
    }

    // Seats and steps

    public int seat(int columns, int rows) throws IllegalArgumentException, IllegalStateException {
        needRange(columns, 1, MOST_LINES);
        needRange(rows, 1, MOST_LINES);
        needRoom(seats.size(), MOST_SEATS);
        seats.add(new Seat(columns, rows));
        return seats.size() - 1;
    }

    public int web(int seat, int tension)
            throws IndexOutOfBoundsException, IllegalArgumentException, UnsupportedOperationException {
        Seat told = seatOf(seat);
        needRange(tension, 1, MOST_TENSION);
        needNext(told, WEBS);
        told.frame.tension = tension;
        return told.steps.add(WEBS);
    }

    public int spring(int seat, int height, int firmness)
            throws IndexOutOfBoundsException, IllegalArgumentException, UnsupportedOperationException {
        Seat told = seatOf(seat);
        needRange(height, LEAST_SPRING, MOST_SPRING);
        needRange(firmness, 1, MOST_FIRMNESS);
        needNext(told, SPRINGS);
        told.frame.putSprings(height, firmness);
        return told.steps.add(SPRINGS);
    }

    public int change(int seat, int cell, int height, int firmness)
            throws IndexOutOfBoundsException, IllegalArgumentException, UnsupportedOperationException {
        Seat told = seatOf(seat);
        needCell(told, cell);
        needRange(height, LEAST_SPRING, MOST_SPRING);
        needRange(firmness, 1, MOST_FIRMNESS);
        needInWork(told, SPRINGS);
        int before = told.frame.heights.at(cell);
        told.frame.putSpring(cell, height, firmness);
        return before;
    }

    public int tie(int seat) throws IndexOutOfBoundsException, UnsupportedOperationException {
        Seat told = seatOf(seat);
        needNext(told, TIES);
        return told.steps.add(TIES);
    }

    public int pull(int seat, boolean isColumn, int line, int height)
            throws IndexOutOfBoundsException, IllegalArgumentException, UnsupportedOperationException {
        Seat told = seatOf(seat);
        needIndex(line, isColumn ? told.frame.columns : told.frame.rows);
        needRange(height, LEAST_TIE, LOOSE_TIE);
        needInWork(told, TIES);
        int before = told.frame.heightInAll();
        told.frame.setTie(isColumn, line, height);
        return Math.abs(before - told.frame.heightInAll());
    }

    public int layer(int seat, char kind, int thickness, int firmness)
            throws IndexOutOfBoundsException, IllegalArgumentException, UnsupportedOperationException {
        Seat told = seatOf(seat);
        needKind(kind);
        needRange(thickness, LEAST_THICKNESS, MOST_THICKNESS);
        needRange(firmness, 1, MOST_FIRMNESS);
        needNext(told, LAYER);
        told.filling.add(new Layer(kind, thickness, firmness));
        return told.steps.add(LAYER);
    }

    public int buttons(int seat) throws IndexOutOfBoundsException, UnsupportedOperationException {
        Seat told = seatOf(seat);
        needNext(told, BUTTONS);
        return told.steps.add(BUTTONS);
    }

    public int draw(int seat, int cell, int depth)
            throws IndexOutOfBoundsException, IllegalArgumentException, UnsupportedOperationException,
            IllegalStateException {
        Seat told = seatOf(seat);
        needCell(told, cell);
        needRange(depth, 1, MOST_DEPTH);
        needInWork(told, BUTTONS);
        if (told.depths.at(cell) == 0) {
            needRoom(told.buttonCount(), MOST_BUTTONS);
        }
        told.depths.put(cell, depth);
        return told.buttonCount();
    }

    public int cover(int seat, int cloth, int match)
            throws IndexOutOfBoundsException, IllegalArgumentException, UnsupportedOperationException,
            NoSuchElementException {
        Seat told = seatOf(seat);
        Cloth from = clothOf(cloth);
        needRange(match, 0, from.repeat - 1);
        needNext(told, COVER);
        if (!told.close(from, match)) {
            throw new NoSuchElementException("the cloth does not do for all panels");
        }
        return from.cutTo;
    }

    public int sign(int seat) throws IndexOutOfBoundsException, UnsupportedOperationException {
        Seat told = seatOf(seat);
        if (told.steps.allSigned()) {
            throw new UnsupportedOperationException("there is no step to sign");
        }
        return told.steps.signLast();
    }

    public int open(int seat, int steps) throws IndexOutOfBoundsException, IllegalArgumentException {
        Seat told = seatOf(seat);
        needRange(steps, 0, told.steps.done);
        return told.openTo(steps);
    }

    public int steps(int seat) throws IndexOutOfBoundsException {
        return seatOf(seat).steps.done;
    }

    public char step(int seat, int step) throws IndexOutOfBoundsException, NoSuchElementException {
        Seat told = seatOf(seat);
        needElement(step, told.steps.done);
        return told.steps.letterAt(step);
    }

    public boolean isSigned(int seat, int step) throws IndexOutOfBoundsException, NoSuchElementException {
        Seat told = seatOf(seat);
        needElement(step, told.steps.done);
        return step < told.steps.signed;
    }

    public boolean isClosed(int seat) throws IndexOutOfBoundsException {
        return seatOf(seat).hasCover();
    }

    // What a seat is like

    public int stands(int seat, int cell) throws IndexOutOfBoundsException {
        Seat told = seatOf(seat);
        needCell(told, cell);
        return told.frame.heightAt(cell);
    }

    public int thick(int seat, int layer) throws IndexOutOfBoundsException, NoSuchElementException {
        return layerOf(seatOf(seat), layer).thicknessNow;
    }

    public int top(int seat, int cell) throws IndexOutOfBoundsException {
        Seat told = seatOf(seat);
        needCell(told, cell);
        return told.topOf(cell);
    }

    public int folds(int seat, boolean lies) throws IndexOutOfBoundsException {
        return seatOf(seat).foldCount(lies);
    }

    public int buttonAt(int seat, int cell) throws IndexOutOfBoundsException, NoSuchElementException {
        Seat told = seatOf(seat);
        needCell(told, cell);
        int depth = told.depths.at(cell);
        if (depth == 0) {
            throw new NoSuchElementException("there is no button in the cell");
        }
        return depth;
    }

    // Bodies

    public int body() throws IllegalStateException {
        needRoom(bodies.size(), MOST_BODIES);
        bodies.add(new Grid());
        return bodies.size() - 1;
    }

    public int mass(int body, int cell, int mass) throws IndexOutOfBoundsException, IllegalArgumentException {
        Grid masses = bodyOf(body);
        needCellIn(cell, MOST_LINES, MOST_LINES);
        needRange(mass, 0, MOST_MASS);
        int before = masses.at(cell);
        masses.put(cell, mass);
        return before;
    }

    public int sinks(int body, int seat, int cell)
            throws IndexOutOfBoundsException, UnsupportedOperationException {
        Grid masses = bodyOf(body);
        Seat told = seatOf(seat);
        needCell(told, cell);
        needSprings(told);
        told.tellSinking(masses, sinking);
        return sinking.at(cell);
    }

    public int pressure(int body, int seat, int cell)
            throws IndexOutOfBoundsException, UnsupportedOperationException {
        Grid masses = bodyOf(body);
        Seat told = seatOf(seat);
        needCell(told, cell);
        needSprings(told);
        told.tellSinking(masses, sinking);
        return pressureOf(masses.at(cell), sinking.at(cell));
    }

    public int comfort(int body, int seat) throws IndexOutOfBoundsException, UnsupportedOperationException {
        Grid masses = bodyOf(body);
        Seat told = seatOf(seat);
        needSprings(told);
        told.tellSinking(masses, sinking);
        int count = 0;
        for (int place = 0; place < told.frame.cellCount(); place++) {
            int cell = told.frame.cellAt(place);
            int mass = masses.at(cell);
            if (mass > 0 && pressureOf(mass, sinking.at(cell)) <= COMFORTABLE_PRESSURE) {
                count++;
            }
        }
        return count;
    }

    public int fit(int body, int other, int seat)
            throws IndexOutOfBoundsException, UnsupportedOperationException {
        Grid masses = bodyOf(body);
        Grid otherMasses = bodyOf(other);
        Seat told = seatOf(seat);
        needSprings(told);
        told.tellSinking(masses, sinking);
        told.tellSinking(otherMasses, otherSinking);
        int sum = 0;
        for (int place = 0; place < told.frame.cellCount(); place++) {
            int cell = told.frame.cellAt(place);
            sum += Math.abs(sinking.at(cell) - otherSinking.at(cell));
        }
        return sum;
    }

    // Cloth

    public int cloth(int length, int repeat) throws IllegalArgumentException, IllegalStateException {
        needRange(length, LEAST_LENGTH, MOST_LENGTH);
        needRange(repeat, 1, MOST_REPEAT);
        needRoom(cloths.size(), MOST_CLOTHS);
        cloths.add(new Cloth(length, repeat));
        return cloths.size() - 1;
    }

    public int flaw(int cloth, int place)
            throws IndexOutOfBoundsException, UnsupportedOperationException, IllegalStateException {
        Cloth told = clothOf(cloth);
        needIndex(place, told.length);
        if (place < told.cutTo || told.hasFlaw(place, place + 1)) {
            throw new UnsupportedOperationException("the place is cut, or has a flaw already");
        }
        needRoom(told.flawCount, MOST_FLAWS);
        return told.addFlaw(place);
    }

    public int left(int cloth) throws IndexOutOfBoundsException {
        Cloth told = clothOf(cloth);
        return told.length - told.cutTo;
    }

    public int panel(int seat, int panel) throws IndexOutOfBoundsException, NoSuchElementException {
        Cover cover = seatOf(seat).cover;
        needElement(panel, cover.panelCount);
        return cover.placeAt(panel);
    }

    // Use and promises

    public int use(int seat, int hours)
            throws IndexOutOfBoundsException, IllegalArgumentException, UnsupportedOperationException {
        Seat told = seatOf(seat);
        needRange(hours, 1, MOST_HOURS);
        needHoursLeft(told, hours);
        return told.wear(hours);
    }

    public int pound(int seat, int blows)
            throws IndexOutOfBoundsException, IllegalArgumentException, UnsupportedOperationException {
        Seat told = seatOf(seat);
        needRange(blows, 1, MOST_BLOWS);
        needHoursLeft(told, blows * HOURS_A_BLOW);
        return told.wear(blows * HOURS_A_BLOW);
    }

    public int hours(int seat) throws IndexOutOfBoundsException, UnsupportedOperationException {
        Seat told = seatOf(seat);
        needClosed(told);
        return told.cover.hours;
    }

    public int land(int land, char barred, int foam)
            throws IndexOutOfBoundsException, IllegalArgumentException {
        Land told = landOf(land);
        if (barred != NO_KIND) {
            needKind(barred);
        }
        needRange(foam, 0, MOST_LAYERS);
        int before = told.foam;
        told.barred = barred;
        told.foam = foam;
        return before;
    }

    public boolean burns(int seat, int land) throws IndexOutOfBoundsException {
        Filling filling = seatOf(seat).filling;
        Land rule = landOf(land);
        return filling.count() > 0
                && (filling.topmostKind() == rule.barred || filling.foamCount() > rule.foam);
    }

    public int tack(int seat, int layer, int year)
            throws IndexOutOfBoundsException, NoSuchElementException, IllegalArgumentException {
        Layer told = layerOf(seatOf(seat), layer);
        needRange(year, FIRST_YEAR, LAST_YEAR);
        int before = told.year;
        told.year = year;
        return before;
    }

    public int quarrels(int seat) throws IndexOutOfBoundsException {
        return seatOf(seat).filling.quarrelCount();
    }

    public int promise(int seat, int hundredths) throws IndexOutOfBoundsException, IllegalArgumentException {
        Seat told = seatOf(seat);
        needRange(hundredths, 0, MOST_HUNDREDTHS);
        int before = told.hundredths;
        told.hundredths = hundredths;
        return before;
    }

    public boolean holds(int seat) throws IndexOutOfBoundsException, UnsupportedOperationException {
        Seat told = seatOf(seat);
        needClosed(told);
        int lost = told.cover.crown - told.topsInAll();
        return lost <= told.cover.crown * told.hundredths / 100;
    }

    public int quote(int seat) throws IndexOutOfBoundsException {
        return seatOf(seat).price();
    }

    // Figures

    public long checksum() {
        long sum = 7;
        for (int i = 0; i < seats.size(); i++) {
            Seat told = seats.get(i);
            sum = 31 * sum + told.steps.done;
            for (int place = 0; place < told.frame.cellCount(); place++) {
                sum = 31 * sum + told.topOf(told.frame.cellAt(place));
            }
        }
        return sum;
    }

    public float closedShare() throws NoSuchElementException {
        if (seats.isEmpty()) {
            throw new NoSuchElementException("there are no seats");
        }
        int closed = 0;
        for (int i = 0; i < seats.size(); i++) {
            if (seats.get(i).hasCover()) {
                closed++;
            }
        }
        return (float) closed / (float) seats.size();
    }

    public double meanTop(int seat) throws IndexOutOfBoundsException {
        Seat told = seatOf(seat);
        return (double) told.topsInAll() / (double) told.frame.cellCount();
    }

    public boolean isSound() {
        for (int i = 0; i < seats.size(); i++) {
            Seat told = seats.get(i);
            if (!told.steps.areInOrder() || !told.hasSoundTops() || !told.cover.fitsItsCloth()
                    || !liesApart(told.cover) || !sinksSoundly(told)) {
                return false;
            }
        }
        return true;
    }

    private boolean liesApart(Cover cover) {
        for (int other = 0; other < seats.size(); other++) {
            if (cover.overlaps(seats.get(other).cover)) {
                return false;
            }
        }
        return true;
    }

    private boolean sinksSoundly(Seat told) {
        for (int body = 0; body < bodies.size(); body++) {
            told.tellSinking(bodies.get(body), sinking);
            if (!told.slopesGently(sinking)) {
                return false;
            }
        }
        return true;
    }

    private static int pressureOf(int mass, int sunk) {
        return quotient(100 * mass, 10 + sunk);
    }

    /** Cuts; a divisor of 0, which no seat has, answers 0 rather than letting the machine throw. */
    private static int quotient(long number, long divisor) {
        return divisor == 0 ? 0 : (int) (number / divisor);
    }

    // What calls are given, and what they need

    private Seat seatOf(int seat) {
        needIndex(seat, seats.size());
        return seats.get(seat);
    }

    private Grid bodyOf(int body) {
        needIndex(body, bodies.size());
        return bodies.get(body);
    }

    private Cloth clothOf(int cloth) {
        needIndex(cloth, cloths.size());
        return cloths.get(cloth);
    }

    private Land landOf(int land) {
        needIndex(land, lands.size());
        return lands.get(land);
    }

    private static Layer layerOf(Seat told, int layer) {
        needElement(layer, told.filling.count());
        return told.filling.layers.get(layer);
    }

    private static void needIndex(int index, int count) {
        if (index < 0 || index >= count) {
            throw new IndexOutOfBoundsException("there is no such one");
        }
    }

    private static void needElement(int index, int count) {
        if (index < 0 || index >= count) {
            throw new NoSuchElementException("there is none");
        }
    }

    private static void needCell(Seat told, int cell) {
        needCellIn(cell, told.frame.columns, told.frame.rows);
    }

    private static void needCellIn(int cell, int columns, int rows) {
        // Of a negative cell the column or the row is negative, too.
        needIndex(cell / COLUMN_STEP, columns);
        needIndex(cell % COLUMN_STEP, rows);
    }

    private static void needRange(int number, int least, int most) {
        if (number < least || number > most) {
            throw new IllegalArgumentException("a number is out of range");
        }
    }

    private static void needKind(char kind) {
        if (kind != HAIR && kind != FOAM && kind != DOWN) {
            throw new IllegalArgumentException("there is no such kind");
        }
    }

    private static void needRoom(int count, int most) {
        if (count >= most) {
            throw new IllegalStateException("there are as many as there may be");
        }
    }

    private static void needNext(Seat told, char letter) {
        if (!told.steps.mayCome(letter)) {
            throw new UnsupportedOperationException("the step may not come next");
        }
    }

    private static void needInWork(Seat told, char letter) {
        if (told.steps.last() != letter || told.steps.allSigned()) {
            throw new UnsupportedOperationException("the step is not the last one, or is signed");
        }
    }

    private static void needSprings(Seat told) {
        if (!told.hasSprings()) {
            throw new UnsupportedOperationException("there are no springs");
        }
    }

    private static void needClosed(Seat told) {
        if (!told.hasCover()) {
            throw new UnsupportedOperationException("the seat is not closed");
        }
    }

    private static void needHoursLeft(Seat told, int hours) {
        needClosed(told);
        if (told.cover.hours + hours > HOURS_IN_ALL) {
            throw new UnsupportedOperationException("there would be too many hours");
        }
    }

    /**
     * A number for each cell, kept under the cell's own number. Rows end at 5, so the places from 6
     * to 9 behind each column stay 0, and what is asked for beyond any edge is 0, too: cells at an
     * edge need no care of their own.
     */
    private static final class Grid {
        private final int[] numbers = new int[CELL_NUMBERS];

        int at(int cell) {
            return cell >= 0 && cell < numbers.length ? numbers[cell] : 0;
        }

        void put(int cell, int number) {
            if (cell >= 0 && cell < numbers.length) {
                numbers[cell] = number;
            }
        }

        void clear() {
            Arrays.fill(numbers, 0);
        }
    }

    /** The work on a seat. Only the last step can be without a sign, so how many are signed tells which. */
    private static final class Steps {
        // Webs, springs, ties, buttons and the cover come once.
        private final char[] letters = new char[MOST_LAYERS + 5];
        private int done;
        private int signed;

        char letterAt(int step) {
            return step >= 0 && step < done && step < letters.length ? letters[step] : NO_STEP;
        }

        char last() {
            return letterAt(done - 1);
        }

        boolean allSigned() {
            return signed == done;
        }

        boolean mayCome(char letter) {
            return allSigned() && mayFollow(done, letter);
        }

        /** Adds a step, and returns its number. */
        int add(char letter) {
            if (done < letters.length) {
                letters[done] = letter;
                done++;
            }
            return done - 1;
        }

        /** Signs the last step, and returns how many are signed. */
        int signLast() {
            signed = done;
            return signed;
        }

        /** Takes the last step away, and returns what it was. */
        char takeLast() {
            char letter = last();
            done = Math.max(0, done - 1);
            signed = Math.min(signed, done);
            return letter;
        }

        boolean areInOrder() {
            for (int step = 0; step < done; step++) {
                if (!mayFollow(step, letterAt(step))) {
                    return false;
                }
            }
            return signed == done || signed == done - 1;
        }

        /** Tells whether a step may come behind the first so many ones. */
        private boolean mayFollow(int count, char letter) {
            char ahead = letterAt(count - 1);
            if (letter == WEBS) {
                return count == 0;
            }
            if (letter == SPRINGS) {
                return ahead == WEBS;
            }
            if (letter == TIES) {
                return ahead == SPRINGS;
            }
            if (letter == LAYER) {
                return (ahead == SPRINGS || ahead == TIES || ahead == LAYER) && layersAhead(count) < MOST_LAYERS;
            }
            if (letter == BUTTONS) {
                return ahead == LAYER;
            }
            return letter == COVER && (ahead == LAYER || ahead == BUTTONS);
        }

        private int layersAhead(int count) {
            int layers = 0;
            for (int step = 0; step < count; step++) {
                if (letterAt(step) == LAYER) {
                    layers++;
                }
            }
            return layers;
        }
    }

    /**
     * What is under the filling: webs, springs and ties. What is not there has the numbers that it
     * begins with: webs and springs 0, ties as loose as can be.
     */
    private static final class Frame {
        private final int columns;
        private final int rows;
        private int tension;
        private final Grid heights = new Grid();
        private final Grid firmnesses = new Grid();
        private final int[] columnTies = new int[MOST_LINES];
        private final int[] rowTies = new int[MOST_LINES];

        Frame(int columns, int rows) {
            this.columns = columns;
            this.rows = rows;
            loosenTies();
        }

        int cellCount() {
            return columns * rows;
        }

        /** The cells in the order of the checksum: by columns, then rows. */
        int cellAt(int place) {
            return rows < 1 ? 0 : place / rows * COLUMN_STEP + place % rows;
        }

        void putSprings(int height, int firmness) {
            for (int place = 0; place < cellCount(); place++) {
                putSpring(cellAt(place), height, firmness);
            }
        }

        void putSpring(int cell, int height, int firmness) {
            heights.put(cell, height);
            firmnesses.put(cell, firmness);
        }

        void takeSprings() {
            heights.clear();
            firmnesses.clear();
        }

        void loosenTies() {
            Arrays.fill(columnTies, LOOSE_TIE);
            Arrays.fill(rowTies, LOOSE_TIE);
        }

        void setTie(boolean isColumn, int line, int height) {
            int[] ties = isColumn ? columnTies : rowTies;
            if (line >= 0 && line < ties.length) {
                ties[line] = height;
            }
        }

        private static int tieAt(int[] ties, int line) {
            return line >= 0 && line < ties.length ? ties[line] : LOOSE_TIE;
        }

        int heightAt(int cell) {
            int tied = Math.min(tieAt(columnTies, cell / COLUMN_STEP), tieAt(rowTies, cell % COLUMN_STEP));
            return Math.min(heights.at(cell), tied);
        }

        int heightInAll() {
            int sum = 0;
            for (int place = 0; place < cellCount(); place++) {
                sum += heightAt(cellAt(place));
            }
            return sum;
        }

        int sinkingUnder(int mass, int cell) {
            return Math.min(heightAt(cell), quotient(10 * mass, firmnesses.at(cell) + tension));
        }

        int pulledTies() {
            return pulledIn(columnTies) + pulledIn(rowTies);
        }

        private static int pulledIn(int[] ties) {
            int count = 0;
            for (int line = 0; line < ties.length; line++) {
                if (ties[line] < LOOSE_TIE) {
                    count++;
                }
            }
            return count;
        }
    }

    private static final class Layer {
        private final char kind;
        private final int thickness;
        private final int firmness;
        private int thicknessNow;
        private long hours;
        private int year;

        Layer(char kind, int thickness, int firmness) {
            this.kind = kind;
            this.thickness = thickness;
            this.firmness = firmness;
            thicknessNow = thickness;
        }

        void settle(int more) {
            hours += more;
            long resistance = (long) firmness * (kind == HAIR ? 1000 : kind == FOAM ? 400 : 100);
            // Doubling the divisor, as halving the thickness would cut twice.
            thicknessNow = thickness - quotient(thickness * hours, 2 * (hours + resistance));
        }

        int sinkingUnder(int mass) {
            return Math.min(thicknessNow, quotient(mass * thicknessNow, 20 * firmness));
        }

        int price() {
            return thickness * (kind == HAIR ? 3 : kind == FOAM ? 2 : 1);
        }

        boolean quarrelsWith(Layer lower) {
            // A lower one without a tack has a year of 0, and no year is less.
            return year != 0 && year < lower.year;
        }
    }

    /** The layers of a seat, the lowest one first. */
    private static final class Filling {
        private final ArrayList<Layer> layers = new ArrayList<Layer>();

        int count() {
            return layers.size();
        }

        void add(Layer layer) {
            layers.add(layer);
        }

        void takeTopmost() {
            if (!layers.isEmpty()) {
                layers.remove(layers.size() - 1);
            }
        }

        void settle(int hours) {
            for (int i = 0; i < layers.size(); i++) {
                layers.get(i).settle(hours);
            }
        }

        int thicknessInAll() {
            int sum = 0;
            for (int i = 0; i < layers.size(); i++) {
                sum += layers.get(i).thicknessNow;
            }
            return sum;
        }

        int sinkingUnder(int mass) {
            int sum = 0;
            for (int i = 0; i < layers.size(); i++) {
                sum += layers.get(i).sinkingUnder(mass);
            }
            return sum;
        }

        int price() {
            int sum = 0;
            for (int i = 0; i < layers.size(); i++) {
                sum += layers.get(i).price();
            }
            return sum;
        }

        char topmostKind() {
            return layers.isEmpty() ? NO_KIND : layers.get(layers.size() - 1).kind;
        }

        int foamCount() {
            int count = 0;
            for (int i = 0; i < layers.size(); i++) {
                if (layers.get(i).kind == FOAM) {
                    count++;
                }
            }
            return count;
        }

        int quarrelCount() {
            int count = 0;
            for (int upper = 1; upper < layers.size(); upper++) {
                for (int lower = 0; lower < upper; lower++) {
                    if (layers.get(upper).quarrelsWith(layers.get(lower))) {
                        count++;
                    }
                }
            }
            return count;
        }
    }

    /** What a cover was cut to, and what goes with its being there; without one there are no panels. */
    private static final class Cover {
        private final int[] places = new int[MOST_LINES];
        private int panelCount;
        private int panelLength;
        private Cloth cloth;
        private int match;
        private int crown;
        private int hours;

        /** Cuts panels if the cloth does for all of them; otherwise the cloth is left whole. */
        boolean cut(Cloth from, int asked, int panels, int length) {
            int end = from.cutTo;
            for (int panel = 0; panel < panels && panel < places.length; panel++) {
                int place = from.firstPlace(end, length, asked);
                if (place < 0) {
                    return false;
                }
                places[panel] = place;
                end = place + length;
            }
            from.cutTo = end;
            cloth = from;
            match = asked;
            panelCount = panels;
            panelLength = length;
            return true;
        }

        void takeAway() {
            panelCount = 0;
            cloth = null;
        }

        int placeAt(int panel) {
            return panel >= 0 && panel < places.length ? places[panel] : 0;
        }

        int lengthInAll() {
            return panelCount * panelLength;
        }

        boolean fitsItsCloth() {
            if (cloth == null) {
                return panelCount == 0;
            }
            for (int panel = 0; panel < panelCount; panel++) {
                int place = placeAt(panel);
                if (place != cloth.nextMatch(place, match) || cloth.hasFlaw(place, place + panelLength)) {
                    return false;
                }
            }
            return true;
        }

        boolean overlaps(Cover other) {
            if (cloth == null || cloth != other.cloth) {
                return false;
            }
            for (int panel = 0; panel < panelCount; panel++) {
                for (int next = 0; next < other.panelCount; next++) {
                    boolean isItself = this == other && panel == next;
                    if (!isItself && placeAt(panel) < other.placeAt(next) + other.panelLength
                            && other.placeAt(next) < placeAt(panel) + panelLength) {
                        return true;
                    }
                }
            }
            return false;
        }
    }

    private static final class Cloth {
        private final int length;
        private final int repeat;
        private final int[] flaws = new int[MOST_FLAWS];
        private int flawCount;
        private int cutTo;

        Cloth(int length, int repeat) {
            this.length = length;
            this.repeat = repeat;
        }

        /** Adds a flaw, and returns how many there are. */
        int addFlaw(int place) {
            if (flawCount < flaws.length) {
                flaws[flawCount] = place;
                flawCount++;
            }
            return flawCount;
        }

        boolean hasFlaw(int from, int end) {
            return lastFlaw(from, end) >= 0;
        }

        /** The last flaw from a place on and ahead of an end, or -1. */
        private int lastFlaw(int from, int end) {
            int last = -1;
            for (int i = 0; i < flawCount && i < flaws.length; i++) {
                if (flaws[i] >= from && flaws[i] < end) {
                    last = Math.max(last, flaws[i]);
                }
            }
            return last;
        }

        /** The first place from a given one on that is the match modulo the repeat. */
        int nextMatch(int from, int match) {
            return repeat < 1 ? from : from + Math.floorMod(match - from, repeat);
        }

        /** The first place from a given one on where a panel can be cut, or -1. */
        int firstPlace(int from, int panel, int match) {
            int place = nextMatch(from, match);
            // A panel that begins at or ahead of a flaw in its way has it too, so each try leaves one behind.
            for (int tries = 0; tries <= flawCount; tries++) {
                int flaw = lastFlaw(place, place + panel);
                if (flaw < 0) {
                    break;
                }
                place = nextMatch(flaw + 1, match);
            }
            return place + panel <= length ? place : -1;
        }
    }

    /** The rule of a land. */
    private static final class Land {
        private char barred = NO_KIND;
        private int foam = MOST_LAYERS;
    }

    private static final class Seat {
        private final Frame frame;
        private final Steps steps = new Steps();
        private final Filling filling = new Filling();
        // Buttons are 1 deep at least, so a cell without one is told by 0.
        private final Grid depths = new Grid();
        private final Cover cover = new Cover();
        private int hundredths = HUNDREDTHS_AT_FIRST;

        Seat(int columns, int rows) {
            frame = new Frame(columns, rows);
        }

        boolean hasSprings() {
            return steps.done > 1;
        }

        boolean hasCover() {
            return steps.last() == COVER;
        }

        boolean close(Cloth from, int match) {
            int length = 10 * frame.rows + greatestTop();
            if (!cover.cut(from, match, frame.columns, length)) {
                return false;
            }
            cover.crown = topsInAll();
            cover.hours = 0;
            steps.add(COVER);
            return true;
        }

        /** Takes steps away until so many are left, and returns how many it took. */
        int openTo(int left) {
            int taken = steps.done - left;
            for (int step = 0; step < taken; step++) {
                undo(steps.takeLast());
            }
            return taken;
        }

        private void undo(char letter) {
            if (letter == COVER) {
                cover.takeAway();
            } else if (letter == BUTTONS) {
                depths.clear();
            } else if (letter == LAYER) {
                filling.takeTopmost();
            } else if (letter == TIES) {
                frame.loosenTies();
            } else if (letter == SPRINGS) {
                frame.takeSprings();
            } else {
                frame.tension = 0;
            }
        }

        int topOf(int cell) {
            return Math.max(0, frame.heightAt(cell) + filling.thicknessInAll() - depths.at(cell));
        }

        int topsInAll() {
            int sum = 0;
            for (int place = 0; place < frame.cellCount(); place++) {
                sum += topOf(frame.cellAt(place));
            }
            return sum;
        }

        private int greatestTop() {
            int greatest = 0;
            for (int place = 0; place < frame.cellCount(); place++) {
                greatest = Math.max(greatest, topOf(frame.cellAt(place)));
            }
            return greatest;
        }

        boolean hasSoundTops() {
            for (int place = 0; place < frame.cellCount(); place++) {
                if (topOf(frame.cellAt(place)) < 0) {
                    return false;
                }
            }
            return true;
        }

        int buttonCount() {
            int count = 0;
            for (int place = 0; place < frame.cellCount(); place++) {
                if (depths.at(frame.cellAt(place)) > 0) {
                    count++;
                }
            }
            return count;
        }

        int foldCount(boolean lying) {
            int count = 0;
            for (int place = 0; place < frame.cellCount(); place++) {
                int cell = frame.cellAt(place);
                // Only to the next column, so that no fold is counted from both of its ends.
                count += foldBetween(cell, cell + COLUMN_STEP - 1, lying);
                count += foldBetween(cell, cell + COLUMN_STEP + 1, lying);
            }
            return count;
        }

        private int foldBetween(int cell, int other, boolean lying) {
            int depth = depths.at(cell);
            int otherDepth = depths.at(other);
            boolean isFold = depth > 0 && otherDepth > 0;
            return isFold && (!lying || Math.abs(depth - otherDepth) <= LYING_DEPTHS_APART) ? 1 : 0;
        }

        /** Uses the seat, and returns by how much the sum of tops is less. */
        int wear(int hours) {
            int before = topsInAll();
            cover.hours += hours;
            filling.settle(hours);
            return before - topsInAll();
        }

        int price() {
            int springs = hasSprings() ? frame.cellCount() : 0;
            return 5 * springs + 2 * frame.pulledTies() + filling.price() + 4 * buttonCount()
                    + cover.lengthInAll();
        }

        /** Tells how far each cell sinks under a body. */
        void tellSinking(Grid masses, Grid sunk) {
            sunk.clear();
            int cells = frame.cellCount();
            // Once forth and once back through all cells is enough: in full rows and columns a shortest
            // way between two cells can go all its steps forth first, and then those back.
            for (int place = 0; place < cells; place++) {
                int cell = frame.cellAt(place);
                int mass = masses.at(cell);
                int own = frame.sinkingUnder(mass, cell) + filling.sinkingUnder(mass);
                int ahead = Math.max(sunk.at(cell - COLUMN_STEP), sunk.at(cell - 1));
                sunk.put(cell, Math.max(own, ahead - SLOPE));
            }
            for (int place = cells - 1; place >= 0; place--) {
                int cell = frame.cellAt(place);
                int behind = Math.max(sunk.at(cell + COLUMN_STEP), sunk.at(cell + 1));
                sunk.put(cell, Math.max(sunk.at(cell), behind - SLOPE));
            }
        }

        boolean slopesGently(Grid sunk) {
            for (int place = 0; place < frame.cellCount(); place++) {
                int cell = frame.cellAt(place);
                int row = cell % COLUMN_STEP;
                if (row > 0 && Math.abs(sunk.at(cell) - sunk.at(cell - 1)) > SLOPE) {
                    return false;
                }
                if (cell >= COLUMN_STEP && Math.abs(sunk.at(cell) - sunk.at(cell - COLUMN_STEP)) > SLOPE) {
                    return false;
                }
            }
            return true;
        }
    }
}
