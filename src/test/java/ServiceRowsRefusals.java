import java.util.ArrayList;
import java.util.List;

/**
 * Which refusal comes first where several could, and that what is refused changes nothing but what
 * tells of lower readings: of two objects with the same calls behind them one gets the refused call
 * as well, and then both are asked the same. Several scripts of questions are asked, each of two
 * new objects, for questions that show what is hidden (a warranty, an order's rules) change things.
 */
public final class ServiceRowsRefusals {
    private static final int MOST_CALLS = 512;

    /** The number of everything new tells how many there are. */
    private static final String[] NEW_ONES = {
        "vehicle(3, true)", "rule(9, 9, 9)", "defect(0, true)", "0..3: order(#)", "budget(1)",
        "small(1)", "day(99999)", "0..4: count(#)",
    };

    private static int refusals = 0;
    private static int wrong = 0;

    /** The calls that lead to a state, and the scripts that ask for all that can be known of it. */
    private static final class Scene {
        final String name;
        final List<Call> past;
        final List<List<Call>> scripts = new ArrayList<>();

        Scene(String name, List<Call> past) {
            this.name = name;
            this.past = past;
        }

        void asks(String... lines) {
            asksWith(List.of(), lines);
        }

        /** A script, and behind it questions that change nothing. */
        void asksWith(List<Call> looks, String... lines) {
            List<Call> script = new ArrayList<>(Scenes.calls(lines));
            script.addAll(looks);
            if (script.size() > mostAsked()) {
                throw new AssertionError(name + ": a script is too long");
            }
            scripts.add(script);
        }

        /** For questions that change nothing: they may be asked in as many pieces as are needed. */
        void asksInPieces(List<Call> looks) {
            for (int from = 0; from < looks.size(); from += mostAsked()) {
                asksWith(looks.subList(from, Math.min(looks.size(), from + mostAsked())));
            }
        }

        private int mostAsked() {
            return MOST_CALLS - past.size() - 1;
        }

        ServiceRows made() {
            ServiceRows x = new ServiceRows();
            for (Call call : past) {
                String answer = call.on(x);
                if (!answer.equals("ok") && !answer.matches("-?[0-9]+")) {
                    report(name + ": its own " + call + " is refused: " + answer);
                }
            }
            return x;
        }
    }

    private static void report(String text) {
        wrong++;
        System.out.println(text);
    }

    /** Lines of a call and the refusal that is due; many of them could be refused twice over. */
    private static void refuses(Scene scene, String... lines) {
        for (String line : lines) {
            String[] halves = line.split(" -> ");
            Call refused = Call.of(halves[0]);
            refusals++;
            for (List<Call> script : scene.scripts) {
                ServiceRows x = scene.made();
                String got = refused.on(x);
                if (!got.equals(halves[1])) {
                    report(scene.name + ": " + line + ": answered " + got);
                    break;
                }
                boolean isLowerReading = refused.name().equals("read") && got.equals("state");
                compare(scene.name + ": behind " + line, x, scene.made(), script,
                        isLowerReading ? 1 : 0);
            }
        }
    }

    private static void compare(String where, ServiceRows x, ServiceRows twin, List<Call> script,
            int moreLowerReadings) {
        for (Call question : script) {
            String got = question.on(x);
            String due = question.on(twin);
            if (question.name().equals("count") && question.numbers()[0] == 3) {
                due = Integer.toString(Integer.parseInt(due) + moreLowerReadings);
            }
            if (!got.equals(due)) {
                report(where + ": " + question + " answered " + got + ", due is " + due);
            }
        }
    }

    /** All questions that change nothing, about one number more than there are of each thing. */
    private static List<Call> looks(int vehicles, int rules, int defects, int dueRows) {
        String ofVehicles = "0.." + vehicles + ": ";
        String ofDefects = "0.." + defects + ": ";
        List<Call> looks = new ArrayList<>(Scenes.calls("0..4: count(#)",
                ofVehicles + "barred(#)", ofVehicles + "spare(#)", ofVehicles + "oil(#, 0)",
                ofVehicles + "oilPer(#, 0)", ofVehicles + "oilPer(#, 1)",
                ofDefects + "defectAt(#, 0)", ofDefects + "defectAt(#, 1)",
                ofDefects + "defectAt(#, 2)", "0.." + dueRows + ": due(#)"));
        for (int vehicle = 0; vehicle <= vehicles; vehicle++) {
            for (int what = 0; what < 3; what++) {
                looks.addAll(Scenes.calls(
                        "0.." + rules + ": left(" + vehicle + ", #, " + what + ")"));
            }
        }
        return looks;
    }

    private static Scene emptyScene() {
        Scene scene = new Scene("empty", List.of());
        scene.asksInPieces(looks(0, 0, 0, 0));
        scene.asks(NEW_ONES);
        return scene;
    }

    private static Scene middleScene() {
        Scene scene = new Scene("middle", Scenes.middle());
        List<Call> looks = looks(4, 3, 5, 12);
        scene.asksInPieces(looks);
        scene.asks(NEW_ONES);
        scene.asksWith(looks, "0..3: work(1, true, #)", "0..5: work(1, false, #)",
                "0..3: work(2, true, #)", "0..5: work(2, false, #)", "0..3: done(#)");
        scene.asks("0..99: part(1, #, 1, 9)", "count(1)", "0..99: part(2, #, 1, 8)", "count(1)",
                "done(1)", "done(2)");
        scene.asks("0..99: part(1, #, 1, 0)", "done(1)");
        scene.asksWith(looks, "day(7)", "part(1, 8, 1, 1)", "part(2, 9, 1, 1)", "day(8)",
                "barred(3)", "part(1, 8, 1, 1)", "day(9)", "barred(3)", "barred(1)",
                "part(1, 8, 1, 1)");
        scene.asksWith(looks, "read(0, 90, 40)", "read(1, 99, 49)", "read(2, 125, 61)",
                "read(3, 0, 0)", "read(0, 89, 40)", "read(0, 90, 39)", "count(3)");
        scene.asksWith(looks, "0..3: test(#, 0, 0, 0)");
        scene.asks("defect(3, false)", "barred(3)", "defect(3, false)", "barred(3)");
        return scene;
    }

    private static void middleRefusals(Scene scene) {
        refuses(scene,
                "vehicle(-1, false) -> range", "vehicle(10, true) -> range",
                "rule(-1, 1, 1) -> range", "rule(1, -1, 1) -> range", "rule(1, 1, -1) -> range",
                "rule(100001, 1, 1) -> range", "rule(1, 100001, 1) -> range",
                "rule(1, 1, 100001) -> range", "rule(0, 0, 0) -> range",
                "small(0) -> range", "small(101) -> range",
                "day(5) -> range", "day(-1) -> range", "day(100000) -> range",
                "due(-1) -> range", "budget(-1) -> range", "budget(100000001) -> range",
                "count(-1) -> unknown", "count(5) -> unknown");
        refuses(scene,
                "read(-1, 200, 200) -> unknown", "read(4, 200, 200) -> unknown",
                "read(4, -1, 200) -> unknown", "read(4, 200, 1000001) -> unknown",
                "read(0, -1, 200) -> range", "read(0, 1000001, 200) -> range",
                "read(0, 200, -1) -> range", "read(0, 200, 1000001) -> range",
                "read(0, 89, 1000001) -> range", "read(0, 1000001, 39) -> range",
                "read(0, 89, -1) -> range", "read(0, 89, 200) -> state",
                "read(0, 200, 39) -> state", "read(0, 89, 39) -> state",
                "read(2, 124, 61) -> state", "read(2, 125, 60) -> state");
        refuses(scene,
                "left(-1, 0, 0) -> unknown", "left(4, 0, 0) -> unknown",
                "left(0, -1, 0) -> unknown", "left(0, 3, 0) -> unknown",
                "left(0, 0, -1) -> unknown", "left(0, 0, 3) -> unknown",
                "left(4, 0, 1) -> unknown", "left(0, 3, 1) -> unknown",
                "left(0, 0, 1) -> state", "left(0, 0, 2) -> state", "left(0, 1, 0) -> state",
                "left(0, 2, 1) -> state");
        refuses(scene,
                "defect(-1, true) -> unknown", "defect(4, true) -> unknown",
                "test(-1, 0, 0, 0) -> unknown", "test(4, 0, 0, 0) -> unknown",
                "test(4, 0, 1, 0) -> unknown", "test(2, 0, 1, 0) -> range",
                "test(2, 1, 1, 0) -> range", "test(2, 0, 1, -1) -> range",
                "certificate(-1, 0, 0) -> unknown", "certificate(4, 0, 0) -> unknown",
                "certificate(3, -1, 0) -> unknown", "certificate(3, 5, 0) -> unknown",
                "certificate(2, 5, 0) -> unknown", "certificate(4, 0, -2) -> unknown",
                "certificate(3, 5, 100000) -> unknown", "certificate(3, -1, -2) -> unknown",
                "certificate(3, 1, -2) -> range", "certificate(3, 1, 100000) -> range",
                "order(-1) -> unknown", "order(4) -> unknown");
        refuses(scene,
                "work(-1, true, 1) -> unknown", "work(3, true, 1) -> unknown",
                "work(3, false, 0) -> unknown", "work(1, true, -1) -> unknown",
                "work(1, true, 3) -> unknown", "work(1, false, -1) -> unknown",
                "work(1, false, 5) -> unknown", "work(0, true, 3) -> unknown",
                "work(0, true, -1) -> unknown", "work(0, false, 5) -> unknown",
                "work(0, false, -1) -> unknown", "work(3, true, 3) -> unknown",
                "work(0, true, 1) -> state", "work(0, true, 0) -> state",
                "work(0, false, 3) -> state", "work(0, false, 2) -> state",
                "work(1, true, 2) -> state", "work(1, false, 1) -> state",
                "work(1, false, 4) -> state", "work(1, false, 2) -> state",
                "work(2, false, 0) -> state", "work(2, false, 1) -> state",
                "work(2, false, 3) -> state", "done(-1) -> unknown", "done(3) -> unknown",
                "done(0) -> state");
        refuses(scene,
                "part(-1, 0, 1, 1) -> unknown", "part(3, 0, 1, 1) -> unknown",
                "part(1, -1, 1, 1) -> unknown", "part(1, 100, 1, 1) -> unknown",
                "part(3, 0, 0, 1) -> unknown", "part(3, 0, 1, -1) -> unknown",
                "part(1, 100, 101, 1) -> unknown", "part(1, -1, 1, 1000001) -> unknown",
                "part(0, 100, 1, 1) -> unknown", "part(1, 100, 1, 876) -> unknown",
                "part(1, 0, 0, 1) -> range", "part(1, 0, 101, 1) -> range",
                "part(1, 0, 1, -1) -> range", "part(1, 0, 1, 1000001) -> range",
                "part(0, 0, 0, 1) -> range", "part(0, 0, 1, 1000001) -> range",
                "part(1, 0, 101, 1000) -> range", "part(1, 8, 0, 1) -> range",
                "part(0, 0, 1, 1) -> state", "part(0, 0, 1, 876) -> state",
                "part(1, 0, 1, 876) -> state", "part(1, 0, 100, 1000000) -> state",
                "part(1, 9, 4, 219) -> state", "part(2, 8, 1, 876) -> state");
        refuses(scene,
                "warranty(-1, 8, 0) -> unknown", "warranty(4, 8, 0) -> unknown",
                "warranty(0, -1, 9) -> unknown", "warranty(0, 100, 9) -> unknown",
                "warranty(1, -1, 99) -> unknown", "warranty(4, 8, -1) -> unknown",
                "warranty(0, 100, 100000) -> unknown", "warranty(0, -1, -1) -> unknown",
                "warranty(0, 8, -1) -> range", "warranty(0, 8, 100000) -> range",
                "barred(-1) -> unknown", "barred(4) -> unknown", "spare(-1) -> unknown",
                "spare(4) -> unknown", "oil(-1, 5) -> unknown", "oil(4, 5) -> unknown",
                "oil(4, -1) -> unknown", "oil(-1, 100001) -> unknown", "oil(0, -1) -> range",
                "oil(0, 100001) -> range", "oilPer(-1, 0) -> unknown", "oilPer(4, 0) -> unknown",
                "oilPer(0, -1) -> unknown", "oilPer(0, 2) -> unknown", "oilPer(3, 2) -> unknown",
                "oilPer(3, -1) -> unknown", "oilPer(3, 0) -> arithmetic",
                "oilPer(3, 1) -> arithmetic", "defectAt(-1, 0) -> unknown",
                "defectAt(5, 0) -> unknown", "defectAt(0, -1) -> unknown",
                "defectAt(0, 3) -> unknown", "defectAt(5, 3) -> unknown");
    }

    /** Without vehicles and orders every number of one is unknown, whatever else is wrong. */
    private static void emptyRefusals(Scene scene) {
        refuses(scene,
                "read(0, 0, 0) -> unknown", "read(0, -1, 0) -> unknown",
                "left(0, 0, 0) -> unknown", "defect(0, true) -> unknown",
                "test(0, 0, 0, 0) -> unknown", "test(0, 0, 1, 0) -> unknown",
                "certificate(0, 0, 0) -> unknown", "certificate(0, 0, -2) -> unknown",
                "order(0) -> unknown", "work(0, true, 0) -> unknown",
                "work(0, false, 0) -> unknown", "part(0, 0, 1, 0) -> unknown",
                "part(0, 0, 0, 0) -> unknown", "part(0, 0, 1, 1) -> unknown",
                "warranty(0, 0, 0) -> unknown", "warranty(0, 0, -1) -> unknown",
                "done(0) -> unknown", "barred(0) -> unknown", "spare(0) -> unknown",
                "oil(0, 0) -> unknown", "oil(0, -1) -> unknown", "oilPer(0, 0) -> unknown",
                "defectAt(0, 0) -> unknown", "vehicle(-1, true) -> range",
                "vehicle(10, true) -> range", "rule(0, 0, 0) -> range", "small(0) -> range",
                "day(-1) -> range", "day(100000) -> range", "due(-1) -> range",
                "budget(-1) -> range", "budget(100000001) -> range", "count(5) -> unknown",
                "count(-1) -> unknown");
    }

    private static Scene fullScene() {
        Scene scene = new Scene("full", Scenes.full());
        scene.asksInPieces(looks(30, 10, 100, 60));
        scene.asks(NEW_ONES);
        scene.asks("0..9: work(59, true, #)", "0..9: work(31, true, #)", "done(59)", "done(31)",
                "done(60)", "part(58, 3, 1, 1)", "count(1)", "part(58, 4, 1, 1)", "budget(0)",
                "budget(1)", "0..9: left(29, #, 0)", "0..9: left(1, #, 2)");
        return scene;
    }

    private static void fullRefusals(Scene scene) {
        refuses(scene,
                "vehicle(0, true) -> room", "vehicle(9, false) -> room",
                "vehicle(-1, true) -> range", "vehicle(10, true) -> range",
                "rule(1, 1, 1) -> room", "rule(0, 0, 0) -> range", "rule(-1, 1, 1) -> range",
                "rule(1, 100001, 1) -> range", "rule(1, 1, -1) -> range",
                "defect(0, true) -> room", "defect(29, false) -> room",
                "defect(-1, true) -> unknown", "defect(30, true) -> unknown",
                "order(0) -> room", "order(-1) -> unknown", "order(30) -> unknown",
                "budget(1) -> room", "budget(100000000) -> room", "budget(100000001) -> range",
                "budget(-1) -> range", "read(30, 100, 100) -> unknown",
                "barred(30) -> unknown", "left(30, 0, 0) -> unknown",
                "left(0, 10, 0) -> unknown", "work(60, true, 0) -> unknown",
                "work(59, true, 10) -> unknown", "work(59, false, 100) -> unknown",
                "work(59, false, 99) -> state", "work(59, true, 9) -> state",
                "work(30, true, 0) -> state", "done(60) -> unknown", "done(30) -> state",
                "defectAt(100, 0) -> unknown");
        refuses(scene,
                "part(59, 3, 1, 1) -> room", "part(59, 4, 1, 1) -> room",
                "part(59, 3, 100, 1000000) -> room", "part(31, 3, 1, 0) -> room",
                "part(0, 3, 1, 0) -> state", "part(30, 3, 1, 0) -> state",
                "part(59, 3, 0, 1) -> range", "part(59, 3, 1, -1) -> range",
                "part(59, 3, 101, 1) -> range", "part(59, 3, 1, 1000001) -> range",
                "part(0, 3, 0, 1) -> range", "part(0, 3, 1, 1000001) -> range",
                "part(60, 3, 1, 1) -> unknown", "part(59, 100, 1, 1) -> unknown",
                "part(0, 100, 1, 1) -> unknown", "part(60, 3, 0, 1) -> unknown",
                "part(59, -1, 101, 1) -> unknown", "part(-1, -1, 101, -1) -> unknown");
    }

    /** No budget and no room for parts: the budget is a matter of state and goes before. */
    private static void partsFullRefusals() {
        Scene scene = new Scene("parts are full", Scenes.calls("vehicle(0, false)",
                "vehicle(0, false)", "order(0)", "order(1)", "warranty(0, 5, 1)", "budget(7)",
                "0..99: part(0, #, 1, 0)"));
        scene.asks("count(1)", "part(0, 5, 1, 1)", "part(0, 6, 1, 1)", "done(0)", "done(1)",
                "count(1)");
        scene.asks("done(0)", "order(0)", "part(2, 5, 1, 0)", "done(2)", "done(1)");
        refuses(scene,
                "part(0, 6, 1, 8) -> state", "part(0, 6, 1, 7) -> room",
                "part(0, 5, 100, 1000000) -> room", "part(1, 5, 1, 8) -> state",
                "part(1, 6, 1, 0) -> room", "part(1, 6, 1, 1000001) -> range",
                "part(1, 6, 101, 8) -> range", "part(1, 100, 1, 8) -> unknown",
                "part(2, 6, 1, 8) -> unknown");
    }

    /** Order 0 is done and order 1 is open, both of vehicle 0; defect 0 and rule 0 are in 1. */
    private static void secondOrderRefusals() {
        Scene scene = new Scene("second order", Scenes.calls("vehicle(0, false)",
                "0..2: rule(100, 0, 0)", "0..2: defect(0, true)", "budget(9)", "order(0)",
                "work(0, true, 1)", "part(0, 0, 1, 2)", "read(0, 10, 0)", "done(0)",
                "read(0, 20, 0)", "order(0)", "work(1, true, 0)", "work(1, false, 0)",
                "part(1, 0, 1, 3)"));
        scene.asks("0..2: work(1, true, #)", "0..2: work(1, false, #)", "done(1)", "count(1)",
                "0..2: defectAt(#, 0)", "0..2: left(0, #, 0)");
        scene.asks("done(1)", "count(1)", "0..2: defectAt(#, 0)", "0..2: left(0, #, 0)",
                "order(0)", "0..2: work(2, true, #)", "0..2: work(2, false, #)", "done(2)",
                "0..2: defectAt(#, 0)", "0..2: left(0, #, 0)");
        refuses(scene,
                "work(0, true, 0) -> state", "work(0, true, 1) -> state",
                "work(0, true, 2) -> state", "work(0, false, 0) -> state",
                "work(0, false, 1) -> state", "part(0, 0, 1, 0) -> state",
                "part(0, 0, 1, 4) -> state", "part(0, 0, 1, 5) -> state",
                "part(1, 0, 1, 5) -> state", "done(0) -> state", "work(1, true, 0) -> state",
                "work(1, false, 0) -> state");
    }

    public static void main(String[] args) {
        emptyRefusals(emptyScene());
        middleRefusals(middleScene());
        fullRefusals(fullScene());
        partsFullRefusals();
        secondOrderRefusals();
        System.out.println(refusals + " refusals, " + wrong + " things wrong");
        if (wrong != 0) {
            System.exit(1);
        }
    }
}
