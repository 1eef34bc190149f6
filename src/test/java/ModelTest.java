/** Long runs of calls, the same ones each time, that Springseat and Model must answer alike. */
public final class ModelTest {
    private static final int RUNS = 240;
    private static final int CALLS = 512;
    private static final int[] ODD = {-2147483648, -11, -10, -1, 0, 1, 6, 9, 10, 56, 99, 100, 2147483647};
    private static final String[] ASKED = {
        "top", "stands", "sinks", "sinks", "pressure", "comfort", "fit", "folds", "buttonAt", "thick", "quote", "holds",
        "hours", "burns", "quarrels", "left", "panel", "steps", "step", "isSigned", "isClosed", "meanTop", "checksum",
        "closedShare", "isSound"
    };
    private static final String[] TOLD = {
        "seat", "cloth", "body", "mass", "mass", "mass", "mass", "flaw", "flaw", "land", "tack", "tack", "promise", "use", "use",
        "use", "pound", "open", "web", "spring", "tie", "layer", "buttons", "cover", "sign", "change", "pull", "draw"
    };

    private final Springseat workshop = new Springseat();
    private final Model model = new Model();
    private final int run;
    private long seed;

    private ModelTest(int run) {
        this.run = run;
        seed = 7919L * run + 17;
    }

    public static void main(String[] args) {
        for (int run = 0; run < RUNS; run++) {
            new ModelTest(run).go();
        }
        Script.end("ModelTest");
    }

    private void go() {
        StringBuilder history = new StringBuilder();
        for (int i = 0; i < CALLS; i++) {
            String call = nextCall(i);
            String due = Script.answer(model, call);
            String got = Script.answer(workshop, call);
            history.append(call).append(" = ").append(due).append("; ");
            if (!got.equals(due)) {
                Script.same("run " + run + ": " + history, got, due);
                return;
            }
        }
    }

    private int random(int count) {
        seed = seed * 6364136223846793005L + 1442695040888963407L;
        return (int) Math.floorMod(seed >>> 33, (long) count);
    }

    private int between(int least, int most) {
        int kind = random(60);
        if (kind == 0) {
            return ODD[random(ODD.length)];
        }
        if (kind < 6) {
            return kind == 1 ? least - 1 : kind == 2 ? most + 1 : kind < 5 ? least : most;
        }
        return least + random(Math.max(1, most - least + 1));
    }

    private String nextCall(int i) {
        if (i < 6 && random(3) > 0) {
            return callOf(i < 2 ? "seat" : i < 4 ? "cloth" : "body");
        }
        int kind = random(10);
        if (kind < 5) {
            return workCall();
        }
        return callOf(kind < 8 ? ASKED[random(ASKED.length)] : TOLD[random(TOLD.length)]);
    }

    /** A call that is likely to be the next one in the work on some seat. */
    private String workCall() {
        if (model.seats.isEmpty()) {
            return callOf("seat");
        }
        int seat = random(model.seats.size());
        Model.Seat s = model.seats.get(seat);
        if (s.signed < s.letters.length() && random(5) > 0) {
            char last = s.letters.charAt(s.letters.length() - 1);
            String name = last == 's' ? "change" : last == 't' ? "pull" : last == 'b' ? "draw" : last == 'c' ? "use" : "sign";
            return callOf(name, seat);
        }
        if (s.signed < s.letters.length()) {
            return callOf("sign", seat);
        }
        String[] names = {"web", "spring", "tie", "layer", "layer", "buttons", "cover"};
        for (int tries = 0; tries < 20; tries++) {
            String name = names[random(names.length)];
            if ((s.letters + letterOf(name)).matches("w(s(t?(l{1,4}(b?c?)?)?)?)?")) {
                return callOf(name, seat);
            }
        }
        return random(6) > 0 ? callOf("use", seat) : callOf("open", seat);
    }

    private static char letterOf(String name) {
        return name.equals("cover") ? 'c' : name.charAt(0);
    }

    private String callOf(String name) {
        return callOf(name, between(0, Math.max(0, model.seats.size() - 1)));
    }

    private String callOf(String name, int seat) {
        switch (name) {
            case "seat": return call(name, between(1, 6), between(1, 6));
            case "web": return call(name, seat, between(1, 9));
            case "spring": return call(name, seat, between(20, 99), between(1, 9));
            case "change": return call(name, seat, cell(seat), between(20, 99), between(1, 9));
            case "pull": return call(name, seat, isColumn(), between(0, random(6)), between(10, 99));
            case "layer": return call(name, seat, kind(), between(5, random(4) == 0 ? 12 : 60), between(1, 9));
            case "draw": return call(name, seat, cell(seat), between(1, random(2) == 0 ? 6 : 30));
            case "cover": return call(name, seat, between(0, 3), between(0, random(2) == 0 ? 3 : 60));
            case "open": return call(name, seat, between(0, seat >= 0 && seat < model.seats.size() ? model.seats.get(seat).letters.length() : 3));
            case "step": case "isSigned": return call(name, seat, between(0, 9));
            case "thick": return call(name, seat, between(0, 3));
            case "stands": case "top": case "buttonAt": return call(name, seat, cell(seat));
            case "folds": return call(name, seat, isColumn());
            case "mass": return call(name, between(0, 2), cell(-1), between(0, random(3) == 0 ? 99 : 20));
            case "sinks": case "pressure": return call(name, between(0, 2), seat, cell(seat));
            case "comfort": return call(name, between(0, 2), seat);
            case "fit": return call(name, between(0, 2), between(0, 2), seat);
            case "cloth": return call(name, between(random(2) == 0 ? 50 : 1500, 2000), between(1, random(2) == 0 ? 8 : 60));
            case "flaw": return call(name, between(0, 3), between(0, random(2) == 0 ? 400 : 1999));
            case "left": return call(name, between(0, 3));
            case "panel": return call(name, seat, between(0, 6));
            case "use": return call(name, seat, between(1, random(2) == 0 ? 300 : 9999));
            case "pound": return call(name, seat, between(1, 3000));
            case "land": return call(name, between(0, 3), kind(), between(0, 4));
            case "burns": return call(name, seat, between(0, 3));
            case "tack": return call(name, seat, between(0, 3), between(random(2) == 0 ? 1700 : 2097, 2100));
            case "promise": return call(name, seat, between(0, random(2) == 0 ? 12 : 100));
            case "body": case "checksum": case "closedShare": case "isSound": return call(name);
            default: return call(name, seat);
        }
    }

    private static String call(String name, Object... given) {
        StringBuilder text = new StringBuilder(name).append('(');
        for (int i = 0; i < given.length; i++) {
            text.append(i == 0 ? "" : ", ").append(given[i]);
        }
        return text.append(')').toString();
    }

    private int cell(int seat) {
        boolean known = seat >= 0 && seat < model.seats.size() && random(12) > 0;
        int columns = known ? model.seats.get(seat).columns : 6;
        int rows = known ? model.seats.get(seat).rows : 6;
        return random(30) == 0 ? between(0, 60) : 10 * random(columns) + random(rows);
    }

    private String kind() {
        return "'" + "hhfffddd-x".charAt(random(10)) + "'";
    }

    private boolean isColumn() {
        return random(2) == 0;
    }
}
