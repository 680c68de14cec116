import java.util.List;

/**
 * Every call with every combination of the edges of its numbers, in an empty, a middle and a full
 * state, each on a new object, against a second writing of the document: so every pair of refusals
 * that can meet does meet. The same call comes twice, and the counts are asked behind it.
 */
public final class ServiceRowsEdges {
    private static final int MIN = Integer.MIN_VALUE;
    private static final int MAX = Integer.MAX_VALUE;

    private static final int[] VEHICLES = {MIN, -1, 0, 1, 2, 3, 4, 29, 30, MAX};
    private static final int[] RULES = {MIN, -1, 0, 2, 3, 9, 10, MAX};
    private static final int[] DEFECTS = {MIN, -1, 0, 1, 2, 3, 4, 5, 99, 100, MAX};
    private static final int[] ORDERS = {MIN, -1, 0, 1, 2, 3, 30, 31, 59, 60, MAX};
    private static final int[] PARTS = {-1, 0, 8, 9, 99, 100, MAX};
    private static final int[] WHATS = {MIN, -1, 0, 1, 2, 3, 4, 5, MAX};
    private static final int[] DAYS = {MIN, -2, -1, 0, 5, 6, 7, 9, 99999, 100000, MAX};
    private static final int[] INTERVALS = {MIN, -1, 0, 1, 100000, 100001, MAX};
    private static final int[] READINGS =
            {MIN, -1, 0, 39, 40, 60, 61, 62, 89, 90, 124, 125, 1000000, 1000001, MAX};
    private static final int[] FEW = {MIN, -1, 0, 1, 100, 101, MAX};
    private static final int[] CENTS = {MIN, -1, 0, 1, 8, 875, 876, 1000000, 1000001, MAX};
    private static final int[] PAYMENTS = {MIN, -1, 0, 1, 100000000, 100000001, MAX};
    private static final int[] FILLINGS = {MIN, -1, 0, 1, 100000, 100001, MAX};
    private static final int[] STATIONS = {MIN, -1, 0, 9, 10, MAX};
    private static final int[] VALUES = {MIN, -1, 0, 1, MAX};
    private static final int[] ROWS = {MIN, -1, 0, 1, 10, 11, 30, 299, 300, MAX};
    private static final int[] YES_OR_NO = {0, 1};

    private static int calls = 0;
    private static int wrong = 0;

    private final List<Call> past;

    private ServiceRowsEdges(List<Call> past) {
        this.past = past;
    }

    private void each(String name, int[]... edges) {
        choose(name, edges, new int[edges.length], 0);
    }

    private void choose(String name, int[][] edges, int[] chosen, int place) {
        if (place == edges.length) {
            check(new Call(name, chosen.clone()));
            return;
        }
        for (int number : edges[place]) {
            chosen[place] = number;
            choose(name, edges, chosen, place + 1);
        }
    }

    private void check(Call call) {
        calls++;
        ServiceRows x = new ServiceRows();
        Model model = new Model();
        for (Call before : past) {
            before.on(x);
            before.on(model);
        }
        compare(call, call, x, model);
        compare(call, call, x, model);
        for (int what = 0; what <= 4; what++) {
            compare(call, new Call("count", what), x, model);
        }
    }

    private void compare(Call call, Call asked, ServiceRows x, Model model) {
        String got = asked.on(x);
        String due = asked.on(model);
        if (!got.equals(due)) {
            wrong++;
            System.out.println("behind " + past.size() + " calls and " + call + ": " + asked
                    + " answered " + got + ", due is " + due);
        }
    }

    private void checkAll() {
        each("vehicle", STATIONS, YES_OR_NO);
        each("rule", INTERVALS, INTERVALS, INTERVALS);
        each("small", FEW);
        each("day", DAYS);
        each("read", VEHICLES, READINGS, READINGS);
        each("left", VEHICLES, RULES, WHATS);
        each("due", ROWS);
        each("defect", VEHICLES, YES_OR_NO);
        each("test", VEHICLES, VALUES, VALUES, VALUES);
        each("certificate", VEHICLES, WHATS, DAYS);
        each("order", VEHICLES);
        each("work", ORDERS, YES_OR_NO, RULES);
        each("work", ORDERS, YES_OR_NO, DEFECTS);
        each("part", ORDERS, PARTS, FEW, CENTS);
        each("warranty", VEHICLES, PARTS, DAYS);
        each("budget", PAYMENTS);
        each("done", ORDERS);
        each("barred", VEHICLES);
        each("spare", VEHICLES);
        each("oil", VEHICLES, FILLINGS);
        each("oilPer", VEHICLES, WHATS);
        each("defectAt", DEFECTS, WHATS);
        each("count", WHATS);
    }

    public static void main(String[] args) {
        new ServiceRowsEdges(List.of()).checkAll();
        new ServiceRowsEdges(Scenes.middle()).checkAll();
        new ServiceRowsEdges(Scenes.full()).checkAll();
        System.out.println(calls + " calls, " + wrong + " answers wrong");
        if (wrong != 0) {
            System.exit(1);
        }
    }
}
