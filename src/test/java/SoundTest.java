import java.lang.reflect.Field;
import java.util.List;

/**
 * That isSound would tell what the calls of the face never let happen: it is asked of workshops that
 * were broken by hand, from inside. Whoever changes the fields of Springseat changes their names here.
 * Tops and sinkings are told anew each time and kept nowhere, so these can't be broken by hand.
 */
public final class SoundTest {
    /** Seat 0 closed with panels of 110 at 0, 110 and 220, seat 1 on the same cloth at 330, 440 and 550. */
    private static final List<String> MADE = Script.calls("seat(3, 2); web(0, 4); sign(0); spring(0, 60, 3); sign(0);"
            + "layer(0, 'h', 30, 5); sign(0); seat(3, 2); web(1, 4); sign(1); spring(1, 60, 3); sign(1);"
            + "layer(1, 'h', 30, 5); sign(1); cloth(2000, 10); cover(0, 0, 0); cover(1, 0, 0); flaw(0, 700); sign(1)");

    public static void main(String[] args) throws ReflectiveOperationException {
        Script.same("46 isSound ahead of all that is broken", Script.after(MADE).isSound(), true);
        stepsOutOfOrder();
        stepsNotSigned();
        panelsUponPanels();
        panelsOffTheMatch();
        panelsWithAFlaw();
        Script.end("SoundTest");
    }

    private static void stepsOutOfOrder() throws ReflectiveOperationException {
        for (int seat = 0; seat < 2; seat++) {
            for (int step = 0; step < 4; step++) {
                Springseat workshop = Script.after(MADE);
                ((char[]) get(seatOf(workshop, seat), "steps", "letters"))[step] = 't';
                Script.same("46 isSound with ties as step " + step + " of seat " + seat, workshop.isSound(), false);
            }
            Springseat workshop = Script.after(MADE);
            char[] letters = (char[]) get(seatOf(workshop, seat), "steps", "letters");
            letters[0] = 's';
            letters[1] = 'w';
            Script.same("46 isSound with springs ahead of webs on seat " + seat, workshop.isSound(), false);
        }
    }

    private static void stepsNotSigned() throws ReflectiveOperationException {
        for (int signed = 0; signed <= 4; signed++) {
            Springseat workshop = Script.after(MADE);
            set(get(seatOf(workshop, 1), "steps"), "signed", signed);
            Script.same("46 isSound with " + signed + " of four steps signed", workshop.isSound(), signed >= 3);
        }
    }

    private static void panelsUponPanels() throws ReflectiveOperationException {
        for (int place : new int[] {220, 320, 330, 380, 440, 540, 550}) {
            Springseat workshop = Script.after(MADE);
            ((int[]) get(seatOf(workshop, 0), "cover", "places"))[0] = place;
            Script.same("46 isSound with a panel cut upon another one at " + place, workshop.isSound(), false);
        }
        Springseat workshop = Script.after(MADE);
        ((int[]) get(seatOf(workshop, 0), "cover", "places"))[0] = 1000;
        Script.same("46 isSound with a panel apart from the other ones", workshop.isSound(), true);
    }

    private static void panelsOffTheMatch() throws ReflectiveOperationException {
        for (int panel = 0; panel < 3; panel++) {
            Springseat workshop = Script.after(MADE);
            ((int[]) get(seatOf(workshop, 0), "cover", "places"))[panel] = 1001;
            Script.same("46 isSound with a panel " + panel + " off the match", workshop.isSound(), false);
        }
    }

    private static void panelsWithAFlaw() throws ReflectiveOperationException {
        for (int place = 580; place <= 710; place += 10) {
            Springseat workshop = Script.after(MADE);
            ((int[]) get(seatOf(workshop, 1), "cover", "places"))[2] = place;
            boolean hasFlaw = place <= 700 && place + 110 > 700;
            Script.same("46 isSound with a flaw at 700 and a panel at " + place, workshop.isSound(), !hasFlaw);
        }
    }

    private static Object seatOf(Springseat workshop, int seat) throws ReflectiveOperationException {
        return ((List<?>) get(workshop, "seats")).get(seat);
    }

    private static Object get(Object from, String... path) throws ReflectiveOperationException {
        Object reached = from;
        for (String name : path) {
            reached = fieldOf(reached, name).get(reached);
        }
        return reached;
    }

    private static void set(Object of, String name, int number) throws ReflectiveOperationException {
        fieldOf(of, name).setInt(of, number);
    }

    private static Field fieldOf(Object of, String name) throws ReflectiveOperationException {
        Field field = of.getClass().getDeclaredField(name);
        field.setAccessible(true);
        return field;
    }
}
