import java.util.ArrayList;
import java.util.Arrays;
import java.util.List;
import java.util.regex.Matcher;
import java.util.regex.Pattern;

/** Calls that lead a new object to a state with many edges; none of them is refused. */
final class Scenes {
    private static final Pattern RANGE = Pattern.compile("(\\d+)\\.\\.(\\d+): (.*)");

    private Scenes() { }

    /** Calls as texts; one with "0..9: " before it is one for each of these numbers. */
    static List<Call> calls(String... texts) {
        return spread(Arrays.asList(texts)).stream().map(Call::of).toList();
    }

    /** Writes a line that begins with "0..9: " once for each number, in the place of #. */
    static List<String> spread(List<String> lines) {
        List<String> all = new ArrayList<>();
        for (String line : lines) {
            Matcher range = RANGE.matcher(line);
            if (!range.matches()) {
                all.add(line);
                continue;
            }
            int last = Integer.parseInt(range.group(2));
            for (int i = Integer.parseInt(range.group(1)); i <= last; i++) {
                all.add(range.group(3).replace("#", Integer.toString(i)));
            }
        }
        return all;
    }

    /**
     * Vehicles 0 and 1 have the open orders 1 and 2, vehicle 2 has order 0, which is done, vehicle
     * 3 has none; defects 0 and 4 are open and in no order, 1 is in order 1, 2 is repaired, 3 is
     * gone; rule 0 is by kilometres, 1 by hours, 2 by days; the budget has 875.
     */
    static List<Call> middle() {
        return calls("vehicle(2, false)", "vehicle(2, true)", "day(4)", "vehicle(4, true)",
                "vehicle(7, false)", "rule(100, 0, 0)", "rule(0, 50, 0)", "rule(0, 0, 10)",
                "small(3)", "read(0, 90, 40)", "read(1, 99, 49)", "read(2, 120, 60)",
                "oil(0, 500)", "oil(2, 30)", "defect(0, false)", "defect(0, true)",
                "defect(2, true)", "defect(2, false)", "defect(3, false)", "order(2)",
                "order(0)", "order(1)", "work(0, false, 2)", "work(0, false, 3)",
                "work(0, true, 0)", "budget(1000)", "part(0, 8, 2, 50)", "done(0)",
                "work(1, false, 1)", "work(1, true, 2)", "part(1, 8, 1, 25)",
                "warranty(0, 8, 9)", "warranty(1, 9, 7)", "certificate(3, 1, 8)",
                "certificate(1, 0, 9)", "day(6)", "read(2, 125, 61)");
    }

    /**
     * 30 vehicles, 10 rules, 100 defects, 60 orders, 100 parts and the fullest budget; orders 0 to
     * 30 are done, 31 to 59 are those of the vehicles 1 to 29, and vehicle 0 has no open one.
     */
    static List<Call> full() {
        List<Call> past = new ArrayList<>();
        for (int i = 0; i < 30; i++) {
            past.addAll(calls("vehicle(" + i % 10 + ", " + (i % 4 == 0) + ")"));
        }
        for (int i = 0; i < 10; i++) {
            past.addAll(calls("rule(" + 10 * (i + 1) + ", 0, 7)"));
        }
        past.addAll(calls("0..29: order(#)", "0..99: defect(5, false)", "read(0, 11, 5)",
                "read(29, 22, 6)", "work(0, true, 9)", "day(6)", "0..59: part(0, #, 1, 0)",
                "0..29: done(#)", "0..29: order(#)", "done(30)", "0..38: part(31, #, 1, 0)",
                "budget(1)", "part(59, 3, 1, 1)", "work(59, true, 9)", "warranty(29, 4, 99)",
                "oil(29, 10)", "0..9: budget(100000000)"));
        return past;
    }
}
