import java.util.ArrayList;
import java.util.List;

/**
 * For each sentence of the document that names a boundary case a script of its own: the last value
 * that is allowed and the first that is not, on both sides, the empty and the full state. What is
 * refused, and in which order, is the matter of ServiceRowsRefusals too.
 *
 * <p>A line of a script is a call and the answer that is due; without an answer the call only must
 * not be refused. "0..9: " before it repeats it with each of these numbers in the place of #, and
 * "new" goes on with a new object.
 */
public final class ServiceRowsBoundaries {
    private static final int MOST_CALLS = 512;

    private static int sentences = 0;
    private static int wrong = 0;

    private static void sentence(String text, Object... script) {
        sentenceOf(MOST_CALLS, text, script);
    }

    private static void sentenceOf(int mostCalls, String text, Object... script) {
        sentences++;
        ServiceRows x = new ServiceRows();
        int calls = 0;
        for (String line : Scenes.spread(flat(script))) {
            if (line.equals("new")) {
                x = new ServiceRows();
                calls = 0;
                continue;
            }
            calls++;
            check(text, x, line);
            if (calls > mostCalls) {
                report(text, line, "is one call too many for the test");
            }
        }
    }

    private static List<String> flat(Object[] script) {
        List<String> lines = new ArrayList<>();
        for (Object piece : script) {
            if (piece instanceof List<?> many) {
                many.forEach(line -> lines.add(line.toString()));
            } else {
                lines.add(piece.toString());
            }
        }
        return lines;
    }

    private static void check(String text, ServiceRows x, String line) {
        String[] halves = line.split(" -> ");
        String got = Call.of(halves[0]).on(x);
        boolean asDue = halves.length == 1 ? got.equals("ok") || got.matches("-?[0-9]+")
                : got.equals(halves[1]);
        if (!asDue) {
            report(text, line, "answered " + got);
        }
    }

    private static void report(String text, String line, String what) {
        wrong++;
        System.out.println(text + ": " + line + ": " + what);
    }

    private static String vehicles(int n) {
        return "0.." + (n - 1) + ": vehicle(0, false) -> #";
    }

    private static void termsDays() {
        sentence("Terms: at most 512 calls",
                "vehicle(0, false)", "1..511: oil(0, 100000) -> #00000");
        sentence("Terms: DAYS are 0 .. 99,999",
                "day(-1) -> range", "day(0) -> ok", "day(100000) -> range", "day(99999) -> ok",
                "count(0) -> 99999");
        sentence("Terms: THE DAY is 0 at first",
                "count(0) -> 0", "vehicle(0, false)", "rule(0, 0, 1)", "left(0, 0, 2) -> 1");
        sentence("Terms: THE DAY never goes back",
                "day(5) -> ok", "day(4) -> range", "day(0) -> range", "count(0) -> 5",
                "day(5) -> ok", "day(6) -> ok", "day(5) -> range", "count(0) -> 6");
    }

    private static void termsVehiclesAndRules() {
        sentence("Terms: VEHICLES at most 30",
                vehicles(30), "vehicle(0, false) -> room", "barred(29) -> 0",
                "barred(30) -> unknown");
        sentence("Terms: a STATION 0 .. 9",
                "vehicle(-1, false) -> range", "vehicle(10, false) -> range",
                "vehicle(0, false) -> 0", "vehicle(9, false) -> 1");
        sentence("Terms: SPARES or not",
                "vehicle(4, true)", "vehicle(4, false)", "spare(0) -> -1", "spare(1) -> 0");
        sentence("Terms: KILOMETRES and HOURS are 0 at first",
                "vehicle(0, false)", "rule(10, 20, 0)", "left(0, 0, 0) -> 10",
                "left(0, 0, 1) -> 20", "oilPer(0, 1) -> arithmetic", "read(0, 0, 0) -> ok");
        sentence("Terms: KILOMETRES and HOURS are as read last",
                "vehicle(0, false)", "rule(10, 20, 0)", "read(0, 3, 4)", "read(0, 5, 7)",
                "left(0, 0, 0) -> 5", "left(0, 0, 1) -> 13", "oilPer(0, 1) -> 1",
                "oil(0, 1)", "oilPer(0, 0) -> 20");
        sentence("Terms: RULES at most 10",
                "0..9: rule(1, 1, 1) -> #", "rule(1, 1, 1) -> room",
                "vehicle(0, false)", "left(0, 9, 0) -> 1", "left(0, 10, 0) -> unknown");
        sentence("Terms: RULES are for all vehicles",
                vehicles(30), "0..9: rule(1000, 0, 0) -> #",
                "left(0, 0, 0) -> 1000", "left(0, 9, 0) -> 1000",
                "left(29, 0, 0) -> 1000", "left(29, 9, 0) -> 1000",
                "new", "rule(7, 0, 0)", "vehicle(0, false)", "left(0, 0, 0) -> 7");
        sentence("Terms: an interval of 0: not by these",
                "vehicle(0, false)", "rule(0, 1, 1)", "rule(1, 0, 1)", "rule(1, 1, 0)",
                "left(0, 0, 0) -> state", "left(0, 0, 1) -> 1", "left(0, 0, 2) -> 1",
                "left(0, 1, 0) -> 1", "left(0, 1, 1) -> state", "left(0, 1, 2) -> 1",
                "left(0, 2, 0) -> 1", "left(0, 2, 1) -> 1", "left(0, 2, 2) -> state",
                "new", "vehicle(0, false)", "rule(0, 10, 10)", "rule(10, 0, 10)",
                "rule(10, 10, 0)", "due(0) -> -1", "read(0, 9, 9)", "day(9)", "due(0) -> -1",
                "read(0, 10, 9)", "due(0) -> 1", "due(1) -> 2", "due(2) -> -1");
        sentence("Terms: one interval at least is not 0",
                "rule(0, 0, 0) -> range", "rule(1, 0, 0) -> 0", "rule(0, 1, 0) -> 1",
                "rule(0, 0, 1) -> 2");
    }

    private static void termsLeft() {
        sentence("Terms: LEFT without a service is since 0",
                "vehicle(0, false)", "read(0, 30, 40)", "rule(100, 100, 0)",
                "left(0, 0, 0) -> 70", "left(0, 0, 1) -> 60");
        sentence("Terms: LEFT of days is since the day when the vehicle came",
                "rule(0, 0, 10)", "vehicle(0, false)", "day(7)", "vehicle(0, false)",
                "left(0, 0, 2) -> 3", "left(1, 0, 2) -> 10", "day(9)", "left(1, 0, 2) -> 8",
                "rule(0, 0, 20)", "left(0, 1, 2) -> 11", "left(1, 1, 2) -> 18",
                "new", "day(99999)", "vehicle(0, false)", "rule(0, 0, 1)", "left(0, 0, 2) -> 1");
        sentence("Terms: LEFT is since the latest SERVICE by that rule",
                "vehicle(0, false)", "rule(100, 100, 100)", "rule(100, 100, 100)",
                "read(0, 10, 20)", "day(30)", "order(0)", "work(0, true, 0)", "done(0)",
                "read(0, 11, 22)", "day(33)", "order(0)", "work(1, true, 0)",
                "left(0, 0, 0) -> 99", "left(0, 0, 1) -> 98", "left(0, 0, 2) -> 97", "done(1)",
                "left(0, 0, 0) -> 100", "left(0, 0, 1) -> 100", "left(0, 0, 2) -> 100",
                "left(0, 1, 0) -> 89", "left(0, 1, 1) -> 78", "left(0, 1, 2) -> 67",
                "read(0, 12, 24)", "day(36)",
                "left(0, 0, 0) -> 99", "left(0, 0, 1) -> 98", "left(0, 0, 2) -> 97");
        sentence("Terms: a service on day 0 and by readings of 0",
                "vehicle(0, false)", "rule(5, 5, 5)", "order(0)", "work(0, true, 0)", "done(0)",
                "left(0, 0, 0) -> 5", "left(0, 0, 1) -> 5", "left(0, 0, 2) -> 5");
        sentence("Terms: DUE when kilometres left are 0 or less",
                "vehicle(0, false)", "rule(10, 0, 0)", "read(0, 9, 0)", "due(0) -> -1",
                "read(0, 10, 0)", "due(0) -> 0", "read(0, 11, 0)", "due(0) -> 0");
        sentence("Terms: DUE when hours left are 0 or less",
                "vehicle(0, false)", "rule(0, 10, 0)", "read(0, 0, 9)", "due(0) -> -1",
                "read(0, 0, 10)", "due(0) -> 0", "read(0, 0, 11)", "due(0) -> 0");
        sentence("Terms: DUE when days left are 0 or less",
                "vehicle(0, false)", "rule(0, 0, 10)", "day(9)", "due(0) -> -1",
                "day(10)", "due(0) -> 0", "day(11)", "due(0) -> 0");
        sentence("Terms: DUE when something is left by an interval of 0 or less, the others not",
                "vehicle(0, false)", "rule(10, 100, 100)", "rule(100, 10, 100)",
                "rule(100, 100, 10)", "due(0) -> -1", "read(0, 10, 0)", "due(0) -> 0",
                "due(1) -> -1", "read(0, 10, 10)", "due(1) -> 1", "due(2) -> -1", "day(10)",
                "due(2) -> 2", "due(3) -> -1");
    }

    private static void termsShare() {
        // -9/10 by kilometres against -8/10 by hours and -7/10 by days, each in turn the least
        sentence("Terms: the SHARE is the least of left over interval",
                vehicles(4), "rule(10, 10, 10)", "read(0, 19, 0)", "read(1, 0, 18)", "day(17)",
                "due(0) -> 0", "due(1) -> 100", "due(2) -> 200", "due(3) -> 300",
                "read(2, 20, 17)", "read(3, 17, 20)", "due(0) -> 200", "due(1) -> 300",
                "due(2) -> 0", "due(3) -> 100", "due(4) -> -1");
        sentence("Terms: the SHARE is over its own interval",
                "vehicle(0, false)", "vehicle(0, false)", "rule(1000, 10, 0)",
                "read(0, 1500, 11)", "read(1, 1100, 14)",
                "due(0) -> 0", "due(1) -> 100", "due(2) -> -1");
        // -33333/99999 is -1/3; -33333/99998 is less and -33333/100000 is more by a trifle
        sentence("Terms: the SHARE is an exact fraction",
                "vehicle(0, false)", "rule(0, 0, 3)", "rule(99999, 0, 0)", "day(4)",
                "read(0, 133332, 0)", "due(0) -> 0", "due(1) -> 1",
                "read(0, 133333, 0)", "due(0) -> 1", "due(1) -> 0",
                "new", "vehicle(0, false)", "rule(99999, 0, 0)", "rule(0, 0, 3)", "day(4)",
                "read(0, 133332, 0)", "due(0) -> 0", "due(1) -> 1",
                "new", "vehicle(0, false)", "rule(0, 100000, 0)", "rule(0, 0, 3)",
                "rule(99998, 0, 0)", "day(4)", "read(0, 133331, 133333)",
                "due(0) -> 2", "due(1) -> 1", "due(2) -> 0");
        // -8 - 1/99999 is less than -8 - 1/100000 by a ten thousand millionth
        sentence("Terms: the SHARE is exact for fractions that are as near as can be",
                "vehicle(0, false)", "rule(0, 100000, 0)", "rule(99999, 0, 0)",
                "read(0, 899992, 900001)", "due(0) -> 1", "due(1) -> 0",
                "read(0, 899992, 900002)", "due(0) -> 0", "due(1) -> 1");
        // crosswise products of some 90,000,000,000
        sentence("Terms: the SHARE is exact for the largest numbers",
                "vehicle(0, false)", "rule(100000, 0, 0)", "rule(0, 99999, 0)",
                "read(0, 1000000, 999990)", "due(0) -> 0", "due(1) -> 1",
                "read(0, 1000000, 999991)", "due(0) -> 1", "due(1) -> 0",
                "new", "vehicle(0, false)", "rule(1, 0, 0)", "rule(0, 100000, 0)",
                "read(0, 1000000, 1000000)", "due(0) -> 0", "due(1) -> 1", "due(2) -> -1",
                "new", vehicles(3), "rule(100000, 0, 0)", "read(0, 100001, 0)",
                "read(1, 1000000, 0)", "read(2, 300000, 0)", "due(0) -> 100", "due(1) -> 200",
                "due(2) -> 0");
        sentence("Terms: the SHARE is the least, for the largest numbers",
                "vehicle(0, false)", "rule(0, 0, 10)", "rule(100000, 100000, 0)", "day(60)",
                "read(0, 1000000, 100001)", "due(0) -> 1", "due(1) -> 0",
                "new", "vehicle(0, false)", "rule(0, 0, 10)", "rule(100000, 100000, 0)",
                "day(60)", "read(0, 100001, 1000000)", "due(0) -> 1", "due(1) -> 0",
                "new", "vehicle(0, false)", "rule(0, 10, 0)", "rule(100000, 0, 1)", "day(99999)",
                "read(0, 1000000, 999989)", "due(0) -> 1", "due(1) -> 0",
                "read(0, 1000000, 999990)", "due(0) -> 0", "due(1) -> 1");
    }

    private static void termsDefectsAndCertificates() {
        sentence("Terms: DEFECTS at most 100",
                "vehicle(0, false)", "0..99: defect(0, false) -> #",
                "defect(0, false) -> room", "defect(0, true) -> room", "defectAt(99, 0) -> 0",
                "defectAt(100, 0) -> unknown");
        sentence("Terms: a repaired small defect is gone at once",
                "vehicle(0, false)", "defect(0, false)", "order(0)", "work(0, false, 0)",
                "defectAt(0, 0) -> 0", "done(0)", "defectAt(0, 0) -> 2");
        sentence("Terms: a repaired severe defect is gone when its vehicle passes a test then",
                vehicles(2), "defect(0, true)", "order(0)", "test(0, 0, 0, 0) -> 1",
                "defectAt(0, 0) -> 0", "work(0, false, 0)", "test(0, 0, 0, 0) -> 1",
                "defectAt(0, 0) -> 0", "done(0)", "defectAt(0, 0) -> 1",
                "test(1, 0, 0, 0) -> 1", "defectAt(0, 0) -> 1", "test(0, 1, 0, 0) -> 0",
                "defectAt(0, 0) -> 1", "test(0, 0, 0, 0) -> 1", "defectAt(0, 0) -> 2");
        sentence("Terms: CERTIFICATES of the kinds 0 .. 4",
                "vehicle(0, false)", "certificate(0, -1, 0) -> unknown",
                "certificate(0, 5, 0) -> unknown", "barred(0) -> 0",
                "certificate(0, 0, 0) -> ok", "barred(0) -> 3", "certificate(0, 0, -1) -> ok",
                "barred(0) -> 0", "certificate(0, 4, 0) -> ok", "barred(0) -> 3",
                "certificate(0, 4, -1) -> ok", "barred(0) -> 0");
        sentence("Terms: a certificate without an end is never past",
                "vehicle(0, false)", "barred(0) -> 0", "day(99999)", "barred(0) -> 0",
                "certificate(0, 2, -1)", "barred(0) -> 0");
        sentence("Terms: from their end on certificates are past",
                "vehicle(0, false)", "certificate(0, 2, 10)", "day(9)", "barred(0) -> 0",
                "day(10)", "barred(0) -> 3", "day(11)", "barred(0) -> 3",
                "new", "vehicle(0, false)", "certificate(0, 2, 0)", "barred(0) -> 3",
                "new", "vehicle(0, false)", "certificate(0, 2, 99999)", "day(99998)",
                "barred(0) -> 0", "day(99999)", "barred(0) -> 3");
    }

    private static void termsOrders() {
        sentence("Terms: WORK ORDERS at most 60",
                "vehicle(0, false)", "vehicle(0, false)", sixtyOrdersDone(),
                "order(0) -> room", "order(1) -> room", "done(59) -> state",
                "done(60) -> unknown", "count(2) -> 0");
        sentence("Terms: a second order is joined to the open one",
                vehicles(2), "order(0) -> 0", "order(1) -> 1", "order(0) -> 0", "order(1) -> 1",
                "count(2) -> 2", "done(0)", "order(0) -> 2", "order(0) -> 2", "count(2) -> 2");
        sentence("Terms: PARTS at most 100 of all orders",
                vehicles(2), "order(0)", "order(1)", "0..59: part(0, #, 1, 0) -> 0",
                "60..98: part(1, #, 1, 0) -> 0", "done(0)", "part(1, 0, 100, 0) -> 0",
                "part(1, 0, 1, 0) -> room", "order(0)", "part(2, 0, 1, 0) -> room");
        sentence("Terms: PARTS with a number 0 .. 99",
                "vehicle(0, false)", "order(0)", "part(0, -1, 1, 0) -> unknown",
                "part(0, 0, 1, 0) -> 0", "part(0, 99, 1, 0) -> 0", "part(0, 100, 1, 0) -> unknown");
        sentence("Terms: a WARRANTY holds up to a day, itself not",
                "vehicle(0, false)", "order(0)", "warranty(0, 7, 20)", "part(0, 7, 1, 3) -> 0",
                "day(19)", "part(0, 7, 1, 3) -> 0", "day(20)", "part(0, 7, 1, 3) -> state",
                "budget(3)", "part(0, 7, 1, 3) -> 3", "count(1) -> 0");
        sentence("Terms: a WARRANTY counts on the day on which the part comes to the order",
                "vehicle(0, false)", "order(0)", "budget(9)", "warranty(0, 7, 1)",
                "part(0, 7, 1, 4) -> 0", "day(1)", "part(0, 7, 1, 5) -> 5",
                "warranty(0, 7, 99999)", "count(1) -> 4", "done(0) -> 5", "count(1) -> 4");
        sentence("Terms: an order is done on a day, by readings of then",
                "vehicle(0, false)", "rule(10, 10, 10)", "order(0)", "work(0, true, 0)",
                "read(0, 3, 4)", "day(5)", "left(0, 0, 0) -> 7", "done(0)",
                "left(0, 0, 0) -> 10", "left(0, 0, 1) -> 10", "left(0, 0, 2) -> 10");
        sentence("Terms: the rules of an order have had their service, and no others",
                vehicles(2), "0..9: rule(10, 0, 0) -> #", "read(0, 3, 0)", "read(1, 4, 0)",
                "order(0)", "order(1)", "work(0, true, 9)", "work(1, true, 0)", "done(0)",
                "left(0, 0, 0) -> 7", "left(0, 8, 0) -> 7", "left(0, 9, 0) -> 10",
                "left(1, 0, 0) -> 6", "left(1, 9, 0) -> 6", "done(1)", "left(1, 0, 0) -> 10",
                "left(1, 1, 0) -> 6", "left(0, 0, 0) -> 7");
        sentence("Terms: the last of 60 orders has the rules of the last of 30 vehicles",
                vehicles(30), "0..9: rule(10, 0, 0) -> #", "0..29: order(#) -> #",
                "0..29: done(#) -> 0", "0..29: order(#)", "read(29, 4, 0)",
                "0..8: work(59, true, #)", "done(59) -> 0", "left(29, 0, 0) -> 10",
                "left(29, 8, 0) -> 10", "left(29, 9, 0) -> 6");
        sentence("Terms: the open defects of an order are repaired, and no others",
                "vehicle(0, false)", "0..3: defect(0, true) -> #", "order(0)",
                "work(0, false, 1)", "work(0, false, 3)", "done(0)", "defectAt(0, 0) -> 0",
                "defectAt(1, 0) -> 1", "defectAt(2, 0) -> 0", "defectAt(3, 0) -> 1");
    }

    private static List<String> sixtyOrdersDone() {
        List<String> lines = new ArrayList<>();
        for (int i = 0; i < 60; i++) {
            lines.add("order(" + i % 2 + ") -> " + i);
            lines.add("done(" + i + ") -> 0");
        }
        return lines;
    }

    private static void termsBarred() {
        sentence("Terms: barred 1, a severe defect is open, or repaired and not tested",
                "vehicle(0, false)", "barred(0) -> 0", "defect(0, true)", "barred(0) -> 1",
                "order(0)", "work(0, false, 0)", "barred(0) -> 1", "done(0)", "barred(0) -> 1",
                "test(0, 0, 0, 0)", "barred(0) -> 0");
        sentence("Terms: barred 2, 5 small defects at first, or more",
                "vehicle(0, false)", "0..3: defect(0, false) -> #", "barred(0) -> 0",
                "defect(0, false)", "barred(0) -> 2", "defect(0, false)", "barred(0) -> 2",
                "order(0)", "work(0, false, 0)", "work(0, false, 5)", "done(0)", "barred(0) -> 0");
        sentence("Terms: barred 3, a certificate is past",
                "vehicle(0, false)", "certificate(0, 0, 1)", "barred(0) -> 0", "day(1)",
                "barred(0) -> 3");
        sentence("Terms: barred 4, it has an open order",
                vehicles(2), "order(0) -> 0", "barred(0) -> 4", "barred(1) -> 0", "done(0)",
                "barred(0) -> 0");
        sentence("Terms: barred 5, a share of -1 / 10 or less, by kilometres",
                "vehicle(0, false)", "rule(100000, 0, 0)", "read(0, 100000, 0)",
                "barred(0) -> 0", "read(0, 109999, 0)", "barred(0) -> 0", "read(0, 110000, 0)",
                "barred(0) -> 5", "read(0, 110001, 0)", "barred(0) -> 5");
        sentence("Terms: barred 5, a share of -1 / 10 or less, by hours",
                "vehicle(0, false)", "rule(0, 19, 0)", "read(0, 0, 20)", "barred(0) -> 0",
                "read(0, 0, 21)", "barred(0) -> 5");
        sentence("Terms: barred 5, a share of -1 / 10 or less, by days",
                "vehicle(0, false)", "rule(0, 0, 90900)", "day(99989)", "barred(0) -> 0",
                "day(99990)", "barred(0) -> 5");
        sentence("Terms: barred 5, the smallest interval: 0 left is no tenth, -1 is",
                "vehicle(0, false)", "rule(1, 0, 0)", "read(0, 1, 0)", "due(0) -> 0",
                "barred(0) -> 0", "read(0, 2, 0)", "barred(0) -> 5");
        sentence("Terms: barred 5, the last of ten rules",
                "vehicle(0, false)", "0..8: rule(0, 0, 100000) -> #", "rule(0, 0, 10)",
                "day(10)", "barred(0) -> 0", "day(11)", "barred(0) -> 5");
        sentence("Terms: barred for the first of these reasons",
                "vehicle(0, false)", "rule(1, 0, 0)", "read(0, 2, 0)", "barred(0) -> 5",
                "order(0)", "barred(0) -> 4", "certificate(0, 4, 0)", "barred(0) -> 3",
                "small(1)", "defect(0, false)", "barred(0) -> 2", "defect(0, true)",
                "barred(0) -> 1", "work(0, false, 0)", "work(0, false, 1)", "done(0)",
                "barred(0) -> 1", "test(0, 0, 0, 0)", "barred(0) -> 3",
                "certificate(0, 4, -1)", "barred(0) -> 5");
        sentence("Terms: barred, otherwise 0",
                "vehicle(0, false)", "barred(0) -> 0", "rule(10, 10, 10)", "defect(0, false)",
                "certificate(0, 0, 1)", "read(0, 10, 10)", "oil(0, 1)", "barred(0) -> 0");
    }

    private static void promises1To5() {
        sentence("1: no vehicles",
                "barred(0) -> unknown", "spare(0) -> unknown", "read(0, 0, 0) -> unknown",
                "left(0, 0, 0) -> unknown", "defect(0, false) -> unknown",
                "test(0, 0, 0, 0) -> unknown", "certificate(0, 0, -1) -> unknown",
                "order(0) -> unknown", "warranty(0, 0, 0) -> unknown", "oil(0, 0) -> unknown",
                "oilPer(0, 0) -> unknown", "due(0) -> -1", "count(4) -> 0",
                "vehicle(0, false) -> 0");
        sentence("1: no rules",
                "vehicle(0, false)", "left(0, 0, 0) -> unknown", "order(0)",
                "work(0, true, 0) -> unknown", "day(99999)", "read(0, 1000000, 1000000)",
                "due(0) -> -1", "done(0)", "barred(0) -> 0", "rule(1, 0, 0) -> 0");
        sentence("1: no defects and no orders",
                "vehicle(0, false)", "defectAt(0, 0) -> unknown", "done(0) -> unknown",
                "work(0, true, 0) -> unknown", "work(0, false, 0) -> unknown",
                "part(0, 0, 1, 0) -> unknown", "count(2) -> 0", "count(3) -> 0",
                "defect(0, false) -> 0", "order(0) -> 0");
        sentence("1: the budget is 0",
                "count(1) -> 0", "budget(0) -> 0", "vehicle(0, false)", "order(0)",
                "part(0, 0, 1, 1) -> state", "part(0, 0, 1, 0) -> 0");
        sentence("2: range, no such station",
                "vehicle(MIN, true) -> range", "vehicle(-1, true) -> range",
                "vehicle(0, true) -> 0", "vehicle(9, true) -> 1", "vehicle(10, true) -> range",
                "vehicle(MAX, true) -> range", "barred(2) -> unknown");
        sentence("2: no room, there are 30",
                "0..28: vehicle(9, true) -> #", "barred(29) -> unknown",
                "vehicle(9, true) -> 29", "vehicle(9, true) -> room", "vehicle(0, false) -> room",
                "barred(30) -> unknown");
        sentence("3: range, kilometres 0 .. 100,000",
                "rule(MIN, 1, 1) -> range", "rule(-1, 1, 1) -> range", "rule(0, 1, 1) -> 0",
                "rule(100000, 1, 1) -> 1", "rule(100001, 1, 1) -> range",
                "rule(MAX, 1, 1) -> range", "vehicle(0, false)", "left(0, 1, 0) -> 100000",
                "left(0, 2, 0) -> unknown");
        sentence("3: range, hours 0 .. 100,000",
                "rule(1, MIN, 1) -> range", "rule(1, -1, 1) -> range", "rule(1, 0, 1) -> 0",
                "rule(1, 100000, 1) -> 1", "rule(1, 100001, 1) -> range",
                "rule(1, MAX, 1) -> range", "vehicle(0, false)", "left(0, 1, 1) -> 100000",
                "left(0, 2, 1) -> unknown");
        sentence("3: range, days 0 .. 100,000",
                "rule(1, 1, MIN) -> range", "rule(1, 1, -1) -> range", "rule(1, 1, 0) -> 0",
                "rule(1, 1, 100000) -> 1", "rule(1, 1, 100001) -> range",
                "rule(1, 1, MAX) -> range", "vehicle(0, false)", "left(0, 1, 2) -> 100000",
                "left(0, 2, 2) -> unknown");
        sentence("3: range, all 0",
                "rule(0, 0, 0) -> range", "vehicle(0, false)", "left(0, 0, 0) -> unknown",
                "rule(0, 0, 1) -> 0", "rule(0, 1, 0) -> 1", "rule(1, 0, 0) -> 2");
        sentence("3: intervals that add up to 0",
                "rule(-1, 1, 0) -> range", "rule(1, -1, 0) -> range", "rule(0, 1, -1) -> range");
        sentence("3: no room, there are 10",
                "0..8: rule(3, 4, 5) -> #", "vehicle(0, false)",
                "left(0, 9, 0) -> unknown", "rule(6, 7, 8) -> 9", "rule(3, 4, 5) -> room",
                "left(0, 9, 0) -> 6", "left(0, 9, 1) -> 7", "left(0, 9, 2) -> 8",
                "left(0, 10, 0) -> unknown");
        sentence("4: range 1 .. 100, the least",
                "vehicle(0, false)", "small(MIN) -> range", "small(-1) -> range",
                "small(0) -> range", "defect(0, false)", "barred(0) -> 0", "small(1) -> ok",
                "barred(0) -> 2", "small(2) -> ok", "barred(0) -> 0");
        sentence("4: range 1 .. 100, the most",
                "vehicle(0, false)", "small(100) -> ok", "small(101) -> range",
                "small(MAX) -> range", "0..98: defect(0, false) -> #", "barred(0) -> 0",
                "defect(0, false)", "barred(0) -> 2");
        sentence("4: without small defects none is barred",
                "vehicle(0, false)", "small(1) -> ok", "barred(0) -> 0", "count(4) -> 0");
        sentence("5: range, below the present one",
                "day(MIN) -> range", "day(-1) -> range", "day(1000)", "day(999) -> range",
                "day(0) -> range", "day(-1) -> range", "count(0) -> 1000", "day(1000) -> ok",
                "day(1001) -> ok", "count(0) -> 1001");
        sentence("5: range, above 99,999",
                "day(100000) -> range", "day(MAX) -> range", "count(0) -> 0", "day(99999) -> ok",
                "day(100000) -> range", "day(99998) -> range", "day(99999) -> ok",
                "count(0) -> 99999");
    }

    private static void promises6To8() {
        sentence("6: unknown, no such vehicle",
                vehicles(2), "read(-1, 0, 0) -> unknown", "read(2, 0, 0) -> unknown",
                "read(MIN, 0, 0) -> unknown", "read(MAX, 0, 0) -> unknown", "read(0, 1, 1) -> ok",
                "read(1, 1, 1) -> ok");
        sentence("6: range, kilometres 0 .. 1,000,000",
                "vehicle(0, false)", "read(0, MIN, 0) -> range", "read(0, -1, 0) -> range",
                "read(0, 1000001, 0) -> range", "read(0, MAX, 0) -> range", "count(3) -> 0",
                "oilPer(0, 1) -> arithmetic", "read(0, 0, 0) -> ok", "read(0, 1000000, 0) -> ok",
                "read(0, 1000001, 0) -> range", "oil(0, 1)", "oilPer(0, 1) -> 10000");
        sentence("6: range, hours 0 .. 1,000,000",
                "vehicle(0, false)", "rule(0, 100000, 0)", "read(0, 0, MIN) -> range",
                "read(0, 0, -1) -> range", "read(0, 0, 1000001) -> range",
                "read(0, 0, MAX) -> range", "count(3) -> 0", "left(0, 0, 1) -> 100000",
                "read(0, 0, 0) -> ok", "read(0, 0, 1000000) -> ok",
                "read(0, 0, 1000001) -> range", "left(0, 0, 1) -> -900000");
        sentence("6: state, kilometres lower than the last",
                "vehicle(0, false)", "rule(100, 100, 0)", "read(0, 10, 10) -> ok",
                "read(0, 10, 10) -> ok", "read(0, 9, 10) -> state", "read(0, 9, 11) -> state",
                "read(0, 0, 1000000) -> state", "left(0, 0, 0) -> 90", "left(0, 0, 1) -> 90",
                "count(3) -> 3", "read(0, 11, 10) -> ok", "left(0, 0, 0) -> 89");
        sentence("6: state, hours lower than the last",
                "vehicle(0, false)", "rule(100, 100, 0)", "read(0, 10, 10) -> ok",
                "read(0, 10, 9) -> state", "read(0, 11, 9) -> state",
                "read(0, 1000000, 0) -> state", "left(0, 0, 0) -> 90", "left(0, 0, 1) -> 90",
                "count(3) -> 3", "read(0, 10, 11) -> ok", "left(0, 0, 1) -> 89");
        sentence("6: told by count(3), once for both",
                vehicles(2), "read(0, 5, 5)", "read(0, 4, 4) -> state", "count(3) -> 1",
                "read(1, 4, 4) -> ok", "read(1, 3, 4) -> state", "count(3) -> 2");
        sentence("6: only lower readings are told by count(3)",
                "vehicle(0, false)", "read(0, 5, 5)", "read(1, 4, 4) -> unknown",
                "read(0, -1, 5) -> range", "read(0, 4, 1000001) -> range",
                "read(0, 1000001, 4) -> range", "count(3) -> 0");
        sentence("6: the highest reading again, and one lower",
                "vehicle(0, false)", "read(0, 1000000, 1000000) -> ok",
                "read(0, 1000000, 1000000) -> ok", "read(0, 999999, 1000000) -> state",
                "read(0, 1000000, 999999) -> state", "count(3) -> 2");
        sentence("7: by 0 kilometres, 1 hours, 2 days",
                "vehicle(0, false)", "rule(3, 4, 5)", "left(0, 0, -1) -> unknown",
                "left(0, 0, 0) -> 3", "left(0, 0, 1) -> 4", "left(0, 0, 2) -> 5",
                "left(0, 0, 3) -> unknown", "left(0, 0, MIN) -> unknown",
                "left(0, 0, MAX) -> unknown");
        sentence("7: unknown, no such vehicle or rule",
                vehicles(2), "rule(3, 4, 5)", "left(-1, 0, 0) -> unknown",
                "left(2, 0, 0) -> unknown", "left(MAX, 0, 0) -> unknown",
                "left(MIN, 0, 0) -> unknown", "left(0, -1, 0) -> unknown",
                "left(0, 1, 0) -> unknown", "left(0, MIN, 0) -> unknown",
                "left(0, MAX, 0) -> unknown", "left(1, 0, 0) -> 3");
        sentence("7: state, the rule is not by that",
                "vehicle(0, false)", "rule(3, 0, 0)", "left(0, 0, 0) -> 3",
                "left(0, 0, 1) -> state", "left(0, 0, 2) -> state", "rule(0, 4, 0)",
                "left(0, 1, 0) -> state", "left(0, 1, 1) -> 4", "rule(0, 0, 5)",
                "left(0, 2, 0) -> state", "left(0, 2, 2) -> 5");
        sentence("7: the least and the most that can be left",
                "vehicle(0, false)", "rule(1, 1, 1)", "rule(100000, 100000, 100000)",
                "left(0, 1, 0) -> 100000", "left(0, 1, 1) -> 100000", "left(0, 1, 2) -> 100000",
                "read(0, 1000000, 1000000)", "day(99999)", "left(0, 0, 0) -> -999999",
                "left(0, 0, 1) -> -999999", "left(0, 0, 2) -> -99998",
                "left(0, 1, 0) -> -900000", "left(0, 1, 2) -> 1");
        sentence("8: range, i is below 0",
                "due(-1) -> range", "due(MIN) -> range", "due(0) -> -1", "vehicle(0, false)",
                "rule(1, 0, 0)", "read(0, 1, 0)", "due(-1) -> range", "due(0) -> 0");
        sentence("8: -1 when there are not so many",
                "due(0) -> -1", "due(MAX) -> -1", vehicles(2), "rule(1, 0, 0)", "due(0) -> -1",
                "read(1, 1, 0)", "due(0) -> 100", "due(1) -> -1", "due(2) -> -1",
                "due(300) -> -1", "due(MAX) -> -1");
        sentence("8: from 0 on up to 300 rows",
                vehicles(30), "0..9: rule(0, 0, 1) -> #", "due(0) -> -1", "day(1)",
                "0..9: due(#) -> #", "0..9: due(1#) -> 10#",
                "0..9: due(29#) -> 290#", "due(300) -> -1", "due(301) -> -1");
        sentence("8: by shares rising",
                vehicles(3), "rule(100, 0, 0)", "rule(0, 100, 0)", "read(0, 101, 100)",
                "read(1, 100, 103)", "read(2, 102, 104)", "due(0) -> 201", "due(1) -> 101",
                "due(2) -> 200", "due(3) -> 0", "due(4) -> 1", "due(5) -> 100", "due(6) -> -1");
        sentence("8: then vehicles, then rules",
                vehicles(2), "rule(10, 0, 0)", "rule(20, 0, 0)", "rule(0, 10, 0)",
                "read(1, 20, 20)", "read(0, 20, 20)", "due(0) -> 0", "due(1) -> 2",
                "due(2) -> 100", "due(3) -> 102", "due(4) -> 1", "due(5) -> 101",
                "due(6) -> -1");
    }

    private static void promises9To12() {
        sentence("9: unknown, no such vehicle",
                "defect(0, true) -> unknown", vehicles(2), "defect(-1, true) -> unknown",
                "defect(2, true) -> unknown", "defect(MIN, true) -> unknown",
                "defect(MAX, true) -> unknown", "defectAt(0, 0) -> unknown",
                "defect(1, true) -> 0", "defect(0, true) -> 1");
        sentence("9: no room, there are 100, gone ones too",
                "vehicle(0, false)", "0..98: defect(0, false) -> #", "order(0)",
                "work(0, false, 0)", "done(0)", "defectAt(0, 0) -> 2", "defect(0, true) -> 99",
                "defect(0, false) -> room", "defect(0, true) -> room", "defectAt(99, 2) -> 1");
        sentence("10: the value is within its bounds",
                "vehicle(0, false)", "test(0, 9, 10, 20) -> 0", "test(0, 10, 10, 20) -> 1",
                "test(0, 11, 10, 20) -> 1", "test(0, 19, 10, 20) -> 1",
                "test(0, 20, 10, 20) -> 1", "test(0, 21, 10, 20) -> 0", "test(0, 7, 7, 7) -> 1",
                "test(0, 6, 7, 7) -> 0", "test(0, 8, 7, 7) -> 0");
        sentence("10: the widest values",
                "vehicle(0, false)", "test(0, MIN, MIN, MAX) -> 1", "test(0, MAX, MIN, MAX) -> 1",
                "test(0, MIN, MIN, MIN) -> 1", "test(0, MAX, MAX, MAX) -> 1",
                "test(0, MAX, MIN, MIN) -> 0", "test(0, MIN, MAX, MAX) -> 0",
                "test(0, MIN, 0, MAX) -> 0", "test(0, MAX, MIN, 0) -> 0",
                "test(0, MAX, -1, 0) -> 0", "test(0, MIN, 0, 1) -> 0");
        sentence("10: range, low is above high",
                "vehicle(0, false)", "test(0, 0, 0, 0) -> 1", "test(0, 0, 1, 0) -> range",
                "test(0, 0, 0, -1) -> range", "test(0, 0, MAX, MIN) -> range",
                "test(0, MIN, MAX, MIN) -> range", "test(0, 0, -2147483647, MIN) -> range",
                "test(0, 0, MAX, 2147483646) -> range", "test(0, 5, 10, 1) -> range");
        sentence("10: unknown, no such vehicle",
                vehicles(2), "test(-1, 0, 0, 0) -> unknown", "test(2, 0, 0, 0) -> unknown",
                "test(MIN, 0, 0, 0) -> unknown", "test(MAX, 0, 0, 0) -> unknown",
                "test(1, 0, 0, 0) -> 1");
        sentence("10: all repaired severe defects of the vehicle are gone then, the open ones not",
                vehicles(2), "defect(0, true)", "defect(0, true)", "defect(0, true)",
                "defect(0, false)", "defect(1, true)", "order(0)", "work(0, false, 0)",
                "work(0, false, 2)", "order(1)", "work(1, false, 4)", "done(0)", "done(1)",
                "test(0, 1, 2, 3) -> 0", "test(0, 1, 3, 2) -> range", "defectAt(0, 0) -> 1",
                "defectAt(2, 0) -> 1", "test(0, 2, 2, 3) -> 1", "defectAt(0, 0) -> 2",
                "defectAt(1, 0) -> 0", "defectAt(2, 0) -> 2", "defectAt(3, 0) -> 0",
                "defectAt(4, 0) -> 1");
        sentence("10: the last of 100 defects is gone too",
                "vehicle(0, false)", "0..98: defect(0, false) -> #", "defect(0, true) -> 99",
                "order(0)", "work(0, false, 99) -> 1", "test(0, 0, 0, 0) -> 1", "done(0)",
                "defectAt(99, 0) -> 1", "test(0, 0, 0, 0) -> 1", "defectAt(99, 0) -> 2",
                "defectAt(98, 0) -> 0");
        sentence("11: an end of -1 is none",
                "vehicle(0, false)", "certificate(0, 3, 0)", "barred(0) -> 3",
                "certificate(0, 3, -1) -> ok", "barred(0) -> 0", "day(99999)", "barred(0) -> 0");
        sentence("11: unknown, no such vehicle or kind",
                vehicles(2), "certificate(-1, 0, 0) -> unknown",
                "certificate(2, 0, 0) -> unknown", "certificate(MIN, 0, 0) -> unknown",
                "certificate(MAX, 0, 0) -> unknown", "certificate(0, -1, 0) -> unknown",
                "certificate(0, 5, 0) -> unknown", "certificate(0, MIN, 0) -> unknown",
                "certificate(0, MAX, 0) -> unknown", "barred(0) -> 0", "barred(1) -> 0",
                "certificate(1, 4, 0) -> ok", "barred(0) -> 0", "barred(1) -> 3",
                "certificate(0, 0, 0) -> ok", "barred(0) -> 3");
        sentence("11: range, the day",
                "vehicle(0, false)", "certificate(0, 0, MIN) -> range",
                "certificate(0, 0, -2) -> range", "certificate(0, 0, -1) -> ok",
                "certificate(0, 0, 0) -> ok", "certificate(0, 0, -2) -> range", "barred(0) -> 3",
                "certificate(0, 0, 99999) -> ok", "certificate(0, 0, 100000) -> range",
                "certificate(0, 0, MAX) -> range", "barred(0) -> 0", "day(99999)",
                "barred(0) -> 3");
        sentence("11: an end before the present day is allowed",
                "vehicle(0, false)", "day(50)", "certificate(0, 0, 49) -> ok", "barred(0) -> 3",
                "certificate(0, 0, 51) -> ok", "barred(0) -> 0");
        sentence("12: unknown, no such vehicle",
                "order(0) -> unknown", vehicles(2), "order(-1) -> unknown",
                "order(2) -> unknown", "order(MIN) -> unknown", "order(MAX) -> unknown",
                "count(2) -> 0", "order(1) -> 0");
        sentence("12: the open one's number, when there is one",
                "vehicle(0, false)", "rule(5, 0, 0)", "order(0) -> 0", "work(0, true, 0) -> 1",
                "order(0) -> 0", "work(0, true, 0) -> state", "count(2) -> 1", "done(0)",
                "order(0) -> 1", "work(1, true, 0) -> 1");
        sentence("12: no room, there are 60",
                vehicles(2), sixtyOrdersDone().subList(0, 118), "order(1) -> 59",
                "order(0) -> room", "order(1) -> 59", "done(59)", "order(1) -> room",
                "count(2) -> 0");
    }

    private static void promise13() {
        sentence("13: unknown, no such order",
                "vehicle(0, false)", "rule(1, 0, 0)", "defect(0, true)",
                "work(0, true, 0) -> unknown", "work(0, false, 0) -> unknown", "order(0)",
                "work(-1, true, 0) -> unknown", "work(1, true, 0) -> unknown",
                "work(MIN, false, 0) -> unknown", "work(MAX, false, 0) -> unknown",
                "work(0, true, 0) -> 1");
        sentence("13: unknown, no such rule",
                "vehicle(0, false)", "order(0)", "work(0, true, 0) -> unknown", "rule(1, 0, 0)",
                "rule(1, 0, 0)", "work(0, true, -1) -> unknown", "work(0, true, 2) -> unknown",
                "work(0, true, MIN) -> unknown", "work(0, true, MAX) -> unknown",
                "work(0, true, 1) -> 1", "work(0, true, 0) -> 2");
        sentence("13: unknown, no such defect",
                "vehicle(0, false)", "order(0)", "rule(1, 0, 0)", "work(0, false, 0) -> unknown",
                "defect(0, false)", "defect(0, false)", "work(0, false, -1) -> unknown",
                "work(0, false, 2) -> unknown", "work(0, false, MIN) -> unknown",
                "work(0, false, MAX) -> unknown", "work(0, true, 1) -> unknown",
                "work(0, false, 1) -> 1", "work(0, false, 0) -> 2");
        sentence("13: state, the order is done",
                "vehicle(0, false)", "rule(1, 0, 0)", "defect(0, true)", "order(0)", "done(0)",
                "work(0, true, 0) -> state", "work(0, false, 0) -> state", "order(0)",
                "work(0, false, 0) -> state", "work(1, true, 0) -> 1", "work(1, false, 0) -> 2",
                "work(0, false, 0) -> state", "work(1, false, 0) -> state", "done(1)",
                "defectAt(0, 0) -> 1");
        sentence("13: state, the defect is another vehicle's",
                vehicles(2), "defect(0, true)", "defect(1, true)", "order(0)", "order(1)",
                "work(0, false, 1) -> state", "work(1, false, 0) -> state",
                "work(0, false, 0) -> 1", "work(1, false, 1) -> 1");
        sentence("13: state, the defect is not open: repaired, gone by a test, gone at once",
                "vehicle(0, false)", "defect(0, true)", "defect(0, false)", "order(0)",
                "work(0, false, 0)", "work(0, false, 1)", "done(0)", "order(0)",
                "work(1, false, 0) -> state", "work(1, false, 1) -> state", "test(0, 0, 0, 0)",
                "work(1, false, 0) -> state", "defect(0, false)", "work(1, false, 2) -> 1");
        sentence("13: state, it has it already",
                "vehicle(0, false)", "rule(1, 0, 0)", "rule(1, 0, 0)", "defect(0, true)",
                "defect(0, true)", "order(0)", "work(0, true, 0) -> 1",
                "work(0, true, 0) -> state", "work(0, false, 0) -> 2",
                "work(0, false, 0) -> state", "work(0, false, 1) -> 3", "work(0, true, 1) -> 4",
                "work(0, true, 1) -> state", "work(0, false, 1) -> state");
        sentence("13: an order with all the rules and defects that there can be",
                "vehicle(0, false)", "0..9: rule(5, 0, 0) -> #",
                "0..99: defect(0, false) -> #", "order(0)",
                "0..9: work(0, true, #)", "work(0, false, 0) -> 11",
                "1..98: work(0, false, #)", "work(0, false, 99) -> 110",
                "work(0, false, 99) -> state", "work(0, true, 9) -> state",
                "work(0, true, 10) -> unknown", "work(0, false, 100) -> unknown",
                "read(0, 3, 0)", "done(0) -> 0", "left(0, 0, 0) -> 5", "left(0, 9, 0) -> 5",
                "defectAt(0, 0) -> 2", "defectAt(99, 0) -> 2");
        sentence("13: a rule comes again, to a later order and to another vehicle's",
                vehicles(2), "rule(1, 0, 0)", "order(0)", "order(1)", "work(0, true, 0) -> 1",
                "work(1, true, 0) -> 1", "done(0)", "order(0)", "work(2, true, 0) -> 1");
    }

    private static void promises14To17() {
        sentence("14: unknown, no such order",
                vehicles(2), "part(0, 0, 1, 0) -> unknown", "order(0)", "order(1)",
                "part(-1, 0, 1, 0) -> unknown", "part(2, 0, 1, 0) -> unknown",
                "part(MIN, 0, 1, 0) -> unknown", "part(MAX, 0, 1, 0) -> unknown",
                "part(1, 0, 1, 0) -> 0");
        sentence("14: unknown, no such part",
                "vehicle(0, false)", "order(0)", "part(0, -1, 1, 0) -> unknown",
                "part(0, 100, 1, 0) -> unknown", "part(0, MIN, 1, 0) -> unknown",
                "part(0, MAX, 1, 0) -> unknown", "part(0, 0, 1, 0) -> 0",
                "part(0, 99, 1, 0) -> 0");
        sentence("14: range, count 1 .. 100",
                "vehicle(0, false)", "order(0)", "budget(101)", "part(0, 0, MIN, 1) -> range",
                "part(0, 0, -1, 1) -> range", "part(0, 0, 0, 1) -> range",
                "part(0, 0, 101, 0) -> range", "part(0, 0, MAX, 0) -> range", "count(1) -> 101",
                "part(0, 0, 1, 1) -> 1", "part(0, 0, 100, 1) -> 100", "count(1) -> 0");
        sentence("14: range, cents 0 .. 1,000,000",
                "vehicle(0, false)", "order(0)", "budget(1000001)",
                "part(0, 0, 1, MIN) -> range", "part(0, 0, 1, -1) -> range",
                "part(0, 0, 1, 1000001) -> range", "part(0, 0, 1, MAX) -> range",
                "count(1) -> 1000001", "part(0, 0, 1, 0) -> 0", "part(0, 0, 1, 1000000) -> 1000000",
                "part(0, 0, 1, 1) -> 1", "count(1) -> 0");
        sentence("14: count times cents, the most",
                "vehicle(0, false)", "order(0)", "budget(100000000)",
                "part(0, 0, 100, 1000000) -> 100000000", "count(1) -> 0",
                "done(0) -> 100000000");
        sentence("14: or 0",
                "vehicle(0, false)", "order(0)", "warranty(0, 3, 1)",
                "part(0, 3, 100, 1000000) -> 0", "budget(5)", "part(0, 3, 1, 5) -> 0",
                "count(1) -> 5", "done(0) -> 0");
        sentence("14: state, the order is done",
                "vehicle(0, false)", "order(0)", "part(0, 0, 1, 0) -> 0", "done(0)",
                "part(0, 0, 1, 0) -> state", "order(0)", "part(0, 0, 1, 0) -> state",
                "part(1, 0, 1, 0) -> 0");
        sentence("14: state, it would cost more than the budget has",
                "vehicle(0, false)", "order(0)", "budget(12)", "part(0, 0, 1, 13) -> state",
                "part(0, 0, 13, 1) -> state", "part(0, 0, 100, 1000000) -> state",
                "count(1) -> 12", "part(0, 0, 1, 11) -> 11", "part(0, 0, 1, 2) -> state",
                "part(0, 0, 1, 1) -> 1", "part(0, 0, 1, 1) -> state", "part(0, 0, 1, 0) -> 0",
                "done(0) -> 12", "count(1) -> 0");
        sentence("14: no room, there are 100",
                "vehicle(0, false)", "order(0)", "budget(200)",
                "0..98: part(0, #, 1, 1) -> 1", "part(0, 0, 2, 1) -> 2",
                "part(0, 0, 1, 1) -> room", "part(0, 99, 1, 0) -> room", "count(1) -> 99",
                "done(0) -> 101", "order(0)", "part(1, 0, 1, 0) -> room");
        sentence("15: up to a day, 0 is none",
                "vehicle(0, false)", "order(0)", "warranty(0, 5, 1) -> ok",
                "part(0, 5, 1, 1) -> 0", "warranty(0, 5, 0) -> ok", "part(0, 5, 1, 1) -> state",
                "warranty(0, 6, 0) -> ok", "part(0, 6, 1, 1) -> state");
        sentence("15: unknown, no such vehicle or part",
                vehicles(2), "warranty(-1, 0, 1) -> unknown", "warranty(2, 0, 1) -> unknown",
                "warranty(MIN, 0, 1) -> unknown", "warranty(MAX, 0, 1) -> unknown",
                "warranty(0, -1, 1) -> unknown", "warranty(0, 100, 1) -> unknown",
                "warranty(0, MIN, 1) -> unknown", "warranty(0, MAX, 1) -> unknown",
                "order(0)", "order(1)", "part(0, 0, 1, 1) -> state", "part(0, 99, 1, 1) -> state",
                "part(1, 0, 1, 1) -> state", "warranty(0, 99, 1) -> ok",
                "part(0, 99, 1, 1) -> 0", "part(1, 0, 1, 1) -> state",
                "warranty(1, 0, 1) -> ok", "part(1, 0, 1, 1) -> 0", "part(0, 0, 1, 1) -> state");
        sentence("15: range, the day",
                "vehicle(0, false)", "order(0)", "warranty(0, 0, MIN) -> range",
                "warranty(0, 0, -1) -> range", "warranty(0, 0, 100000) -> range",
                "warranty(0, 0, MAX) -> range", "part(0, 0, 1, 1) -> state",
                "warranty(0, 0, 99999) -> ok", "warranty(0, 0, -1) -> range", "day(99998)",
                "part(0, 0, 1, 1) -> 0", "day(99999)", "part(0, 0, 1, 1) -> state");
        sentence("16: range 0 .. 100,000,000",
                "budget(MIN) -> range", "budget(-1) -> range", "budget(100000001) -> range",
                "budget(MAX) -> range", "count(1) -> 0", "budget(0) -> 0",
                "budget(100000000) -> 100000000", "count(1) -> 100000000");
        sentence("16: no room, it would have more than 1,000,000,000",
                "1..9: budget(100000000) -> #00000000", "budget(1) -> 900000001",
                "budget(100000000) -> room", "count(1) -> 900000001",
                "budget(99999999) -> 1000000000", "budget(1) -> room", "budget(0) -> 1000000000",
                "budget(100000000) -> room", "count(1) -> 1000000000",
                "vehicle(0, false)", "order(0)", "part(0, 0, 1, 7) -> 7", "budget(8) -> room",
                "budget(7) -> 1000000000",
                "new", "1..10: budget(100000000) -> #00000000", "budget(1) -> room");
        sentence("17: unknown, no such order",
                "done(0) -> unknown", vehicles(2), "order(0)", "order(1)",
                "done(-1) -> unknown", "done(2) -> unknown", "done(MIN) -> unknown",
                "done(MAX) -> unknown", "count(2) -> 2", "done(1) -> 0", "done(0) -> 0");
        sentence("17: state, it is done",
                vehicles(2), "rule(10, 0, 0)", "order(0)", "work(0, true, 0)", "read(0, 4, 0)",
                "done(0) -> 0", "read(0, 6, 0)", "done(0) -> state", "left(0, 0, 0) -> 8",
                "order(0) -> 1", "done(0) -> state", "count(2) -> 1", "barred(0) -> 4");
        sentence("17: what its parts cost, of an order without parts",
                "vehicle(0, false)", "order(0)", "budget(4)", "part(0, 1, 1, 4) -> 4",
                "done(0) -> 4", "order(0)", "done(1) -> 0");
        sentence("17: what its parts cost, up to the highest int",
                "vehicle(0, false)", "order(0)", dearParts(21), "budget(47483647)",
                "part(0, 0, 100, 474836) -> 47483600", "part(0, 0, 1, 47) -> 47",
                "done(0) -> 2147483647");
        // the document names no refusal there and the answer is an int: the sum wraps around
        sentence("17: what its parts cost, above the highest int",
                "vehicle(0, false)", "order(0)", dearParts(21), "budget(47483648)",
                "part(0, 0, 100, 474836) -> 47483600", "part(0, 0, 1, 48) -> 48",
                "done(0) -> -2147483648");
    }

    private static List<String> dearParts(int n) {
        List<String> lines = new ArrayList<>();
        for (int i = 0; i < n; i++) {
            lines.add("budget(100000000) -> 100000000");
            lines.add("part(0, 0, 100, 1000000) -> 100000000");
        }
        return lines;
    }

    private static void promises18And19() {
        sentence("18: unknown, no such vehicle",
                "barred(0) -> unknown", vehicles(2), "barred(-1) -> unknown",
                "barred(2) -> unknown", "barred(MIN) -> unknown", "barred(MAX) -> unknown",
                "barred(0) -> 0", "barred(1) -> 0");
        sentence("18: the last of 30 vehicles is barred by its own alone",
                vehicles(30), "small(1)", "defect(28, true)", "certificate(27, 4, 0)",
                "order(26)", "defect(25, false)", "barred(29) -> 0", "barred(28) -> 1",
                "barred(27) -> 3", "barred(26) -> 4", "barred(25) -> 2", "barred(24) -> 0",
                "certificate(29, 4, 0)", "barred(29) -> 3", "count(4) -> 5");
        sentence("19: unknown, no such vehicle",
                "spare(0) -> unknown", "vehicle(0, true)", "vehicle(0, true)",
                "spare(-1) -> unknown", "spare(2) -> unknown", "spare(MIN) -> unknown",
                "spare(MAX) -> unknown", "spare(0) -> 1", "spare(1) -> 0");
        sentence("19: another one than it",
                "vehicle(5, true)", "spare(0) -> -1", "vehicle(5, false)", "spare(0) -> -1",
                "spare(1) -> 0", "vehicle(9, true)", "spare(0) -> 2", "spare(2) -> 0");
        sentence("19: one that is not barred, for each reason",
                "vehicle(0, false)", "vehicle(0, true)", "spare(0) -> 1", "rule(10, 0, 0)",
                "read(1, 10, 0)", "spare(0) -> 1", "read(1, 11, 0)", "spare(0) -> -1", "order(1)",
                "work(0, true, 0)", "spare(0) -> -1", "done(0)", "spare(0) -> 1",
                "certificate(1, 0, 0)", "spare(0) -> -1", "certificate(1, 0, 1)", "spare(0) -> 1",
                "small(1)", "defect(1, false)", "spare(0) -> -1", "small(2)", "spare(0) -> 1",
                "defect(1, true)", "spare(0) -> -1");
        sentence("19: at the nearest station, from one end to the other",
                "vehicle(0, false)", "vehicle(9, true)", "spare(0) -> 1", "vehicle(8, true)",
                "spare(0) -> 2", "spare(1) -> 2", "vehicle(0, true)", "spare(0) -> 3",
                "spare(2) -> 1", "spare(3) -> 2",
                "new", "vehicle(9, false)", "vehicle(0, true)", "spare(0) -> 1",
                "vehicle(1, true)", "spare(0) -> 2", "vehicle(9, true)", "spare(0) -> 3");
        sentence("19: of the same distance the lower station",
                "vehicle(5, false)", "vehicle(6, true)", "vehicle(4, true)", "spare(0) -> 2",
                "new", "vehicle(5, false)", "vehicle(4, true)", "vehicle(6, true)",
                "spare(0) -> 1",
                "new", "vehicle(5, false)", "vehicle(9, true)", "vehicle(1, true)",
                "spare(0) -> 2", "vehicle(8, true)", "spare(0) -> 3");
        sentence("19: there the lowest",
                "vehicle(5, false)", "vehicle(4, true)", "vehicle(4, true)", "vehicle(4, true)",
                "spare(0) -> 1", "order(1)", "spare(0) -> 2", "order(2)", "spare(0) -> 3",
                "done(0)", "spare(0) -> 1");
        sentence("19: the last of 30 vehicles, and none behind it",
                vehicles(29), "vehicle(9, true) -> 29", "spare(0) -> 29", "spare(28) -> 29",
                "spare(29) -> -1", "order(29)", "spare(0) -> -1");
        sentence("19: -1 for none",
                "vehicle(5, false)", "spare(0) -> -1", "vehicle(5, false)", "spare(0) -> -1",
                "vehicle(5, true)", "spare(0) -> 2", "order(2)", "spare(0) -> -1");
    }

    private static void promises20To23() {
        sentence("20: unknown, no such vehicle",
                "oil(0, 0) -> unknown", vehicles(2), "oil(-1, 0) -> unknown",
                "oil(2, 0) -> unknown", "oil(MIN, 0) -> unknown", "oil(MAX, 0) -> unknown",
                "oil(0, 5) -> 5", "oil(1, 7) -> 7", "oil(0, 0) -> 5");
        // 512 calls cannot bring so much oil: here the class does more than is promised
        sentenceOf(11000, "20: no room, above 1,000,000,000",
                vehicles(2), "1..9999: oil(0, 100000) -> #00000", "oil(0, 1) -> 999900001",
                "oil(0, 100000) -> room", "oil(0, 0) -> 999900001", "oil(0, 99999) -> 1000000000",
                "oil(0, 1) -> room", "oil(0, 100001) -> range", "oil(2, 1) -> unknown",
                "oil(0, 0) -> 1000000000", "oil(1, 100000) -> 100000", "read(0, 999999, 0)",
                "oilPer(0, 0) -> 100000000000", "oilPer(0, 1) -> 999999");
        sentence("20: range 0 .. 100,000",
                "vehicle(0, false)", "oil(0, MIN) -> range", "oil(0, -1) -> range",
                "oil(0, 100001) -> range", "oil(0, MAX) -> range", "oil(0, 0) -> 0",
                "oil(0, 100000) -> 100000", "oil(0, 100001) -> range", "oil(0, -1) -> range",
                "oil(0, 0) -> 100000", "oil(0, 1) -> 100001");
        sentence("21: 0 the upper, 1 the lower number",
                "vehicle(0, false)", "read(0, 300, 0)", "oil(0, 4)", "oilPer(0, -1) -> unknown",
                "oilPer(0, 0) -> 4", "oilPer(0, 1) -> 3", "oilPer(0, 2) -> unknown",
                "oilPer(0, MIN) -> unknown", "oilPer(0, MAX) -> unknown");
        sentence("21: unknown, no such vehicle",
                "oilPer(0, 0) -> unknown", vehicles(2), "read(1, 100, 0)",
                "oilPer(-1, 0) -> unknown", "oilPer(2, 0) -> unknown",
                "oilPer(MIN, 0) -> unknown", "oilPer(MAX, 0) -> unknown", "oilPer(1, 0) -> 0");
        sentence("21: ArithmeticException, it has no kilometres",
                "vehicle(0, false)", "oilPer(0, 0) -> arithmetic", "oilPer(0, 1) -> arithmetic",
                "oil(0, 50)", "read(0, 0, 9)", "oilPer(0, 0) -> arithmetic",
                "oilPer(0, 1) -> arithmetic", "read(0, 1, 9)", "oilPer(0, 0) -> 5000",
                "oilPer(0, 1) -> 1");
        sentence("21: a fraction in lowest terms, without oil 0 / 1",
                "vehicle(0, false)", "read(0, 1, 0)", "oilPer(0, 0) -> 0", "oilPer(0, 1) -> 1",
                "read(0, 1000000, 0)", "oilPer(0, 0) -> 0", "oilPer(0, 1) -> 1");
        sentence("21: a fraction in lowest terms",
                "vehicle(0, false)", "oil(0, 1)", "read(0, 1, 0)", "oilPer(0, 0) -> 100",
                "oilPer(0, 1) -> 1", "read(0, 99, 0)", "oilPer(0, 0) -> 100",
                "oilPer(0, 1) -> 99", "read(0, 100, 0)", "oilPer(0, 0) -> 1",
                "oilPer(0, 1) -> 1", "read(0, 101, 0)", "oilPer(0, 0) -> 100",
                "oilPer(0, 1) -> 101", "read(0, 1000000, 0)", "oilPer(0, 0) -> 1",
                "oilPer(0, 1) -> 10000", "oil(0, 9999)", "oilPer(0, 0) -> 1",
                "oilPer(0, 1) -> 1", "oil(0, 1)", "oilPer(0, 0) -> 10001",
                "oilPer(0, 1) -> 10000");
        sentence("21: an upper number above the highest int",
                "vehicle(0, false)", "read(0, 1, 0)", "1..214: oil(0, 100000) -> #00000",
                "oil(0, 74836) -> 21474836", "oilPer(0, 0) -> 2147483600", "oil(0, 1)",
                "oilPer(0, 0) -> 2147483700", "0..249: oil(0, 100000)",
                "oilPer(0, 0) -> 4647483700", "oilPer(0, 1) -> 1", "read(0, 999999, 0)",
                "oilPer(0, 0) -> 4647483700", "oilPer(0, 1) -> 999999");
        sentence("22: unknown, no such defect",
                "vehicle(0, false)", "defectAt(0, 0) -> unknown", "defect(0, true)",
                "defect(0, false)", "defectAt(-1, 0) -> unknown", "defectAt(2, 0) -> unknown",
                "defectAt(MIN, 0) -> unknown", "defectAt(MAX, 0) -> unknown",
                "defectAt(0, 2) -> 1", "defectAt(1, 2) -> 0");
        sentence("22: unknown, no such what",
                vehicles(2), "defect(1, true)", "defectAt(0, -1) -> unknown",
                "defectAt(0, 3) -> unknown", "defectAt(0, MIN) -> unknown",
                "defectAt(0, MAX) -> unknown", "defectAt(0, 0) -> 0", "defectAt(0, 1) -> 1",
                "defectAt(0, 2) -> 1");
        sentence("22: 0 open, 1 repaired, 2 gone",
                "vehicle(0, false)", "defect(0, true)", "defectAt(0, 0) -> 0", "order(0)",
                "work(0, false, 0)", "done(0)", "defectAt(0, 0) -> 1", "test(0, 0, 0, 0)",
                "defectAt(0, 0) -> 2", "test(0, 0, 0, 0)", "defectAt(0, 0) -> 2");
        sentence("23: unknown, no such what",
                "count(MIN) -> unknown", "count(-1) -> unknown", "count(0) -> 0",
                "count(4) -> 0", "count(5) -> unknown", "count(MAX) -> unknown");
        sentence("23: open orders and barred vehicles, none and all",
                "count(2) -> 0", "count(4) -> 0", vehicles(30), "count(2) -> 0",
                "count(4) -> 0", "0..29: order(#) -> #", "count(2) -> 30",
                "count(4) -> 30", "0..29: done(#) -> 0", "count(2) -> 0",
                "count(4) -> 0");
        sentence("23: lower readings refused, one for each call",
                "vehicle(0, false)", "read(0, 1, 1)", "0..499: read(0, 0, 0) -> state",
                "count(3) -> 500");
    }

    public static void main(String[] args) {
        termsDays();
        termsVehiclesAndRules();
        termsLeft();
        termsShare();
        termsDefectsAndCertificates();
        termsOrders();
        termsBarred();
        promises1To5();
        promises6To8();
        promises9To12();
        promise13();
        promises14To17();
        promises18And19();
        promises20To23();
        System.out.println(sentences + " sentences, " + wrong + " calls wrong");
        if (wrong != 0) {
            System.exit(1);
        }
    }
}
