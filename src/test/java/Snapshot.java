/** All that can be asked of a workshop without changing it, in one text. */
final class Snapshot {
    private Snapshot() {
    }

    static String of(Object workshop) {
        StringBuilder text = new StringBuilder();
        for (String call : new String[] {"checksum()", "closedShare()", "isSound()"}) {
            note(text, workshop, call);
        }
        for (int cloth = 0; cloth < 4; cloth++) {
            note(text, workshop, "left(" + cloth + ")");
        }
        for (int seat = 0; seat < 4 && !Script.answer(workshop, "steps(" + seat + ")").startsWith("throws."); seat++) {
            noteSeat(text, workshop, seat);
        }
        return text.toString();
    }

    private static void noteSeat(StringBuilder text, Object workshop, int seat) {
        for (String name : new String[] {"steps", "isClosed", "hours", "quarrels", "holds", "quote", "meanTop"}) {
            note(text, workshop, name + "(" + seat + ")");
        }
        note(text, workshop, "folds(" + seat + ", true)");
        note(text, workshop, "folds(" + seat + ", false)");
        for (int i = 0; i < 9; i++) {
            for (String name : new String[] {"step", "isSigned", "thick", "panel", "burns"}) {
                note(text, workshop, name + "(" + seat + ", " + i + ")");
            }
        }
        for (int cell = 0; cell <= 55; cell += cell % 10 == 5 ? 5 : 1) {
            for (String name : new String[] {"stands", "top", "buttonAt"}) {
                note(text, workshop, name + "(" + seat + ", " + cell + ")");
            }
            for (int body = 0; body < 3; body++) {
                note(text, workshop, "sinks(" + body + ", " + seat + ", " + cell + ")");
                note(text, workshop, "pressure(" + body + ", " + seat + ", " + cell + ")");
            }
        }
        for (int body = 0; body < 3; body++) {
            note(text, workshop, "comfort(" + body + ", " + seat + ")");
        }
    }

    private static void note(StringBuilder text, Object workshop, String call) {
        text.append(call).append('=').append(Script.answer(workshop, call)).append(' ');
    }
}
