import java.util.function.LongSupplier;

/** For each promise of the document: ordinary inputs, its edges, and wrong inputs. */
public final class ServiceRowsPromises {
    private static final Class<?> UNKNOWN = IllegalArgumentException.class;
    private static final Class<?> RANGE = IndexOutOfBoundsException.class;
    private static final Class<?> STATE = IllegalStateException.class;
    private static final Class<?> ROOM = UnsupportedOperationException.class;
    private static final Class<?> NO_KILOMETRES = ArithmeticException.class;

    private static int calls = 0;
    private static int wrong = 0;

    private static void is(String call, long due, LongSupplier answer) {
        calls++;
        String got;
        try {
            long value = answer.getAsLong();
            if (value == due) {
                return;
            }
            got = Long.toString(value);
        } catch (RuntimeException e) {
            got = e.toString();
        }
        wrong++;
        System.out.println(call + " answered " + got + ", due is " + due);
    }

    /** The class must be the very one: the machine's own exceptions are below the document's. */
    private static void refuses(String call, Class<?> due, Runnable code) {
        calls++;
        String got = "nothing";
        try {
            code.run();
        } catch (RuntimeException e) {
            if (e.getClass() == due) {
                return;
            }
            got = e.toString();
        }
        wrong++;
        System.out.println(call + " threw " + got + ", due is " + due.getSimpleName());
    }

    private static void takes(String call, Runnable code) {
        is(call, 0, () -> {
            code.run();
            return 0;
        });
    }

    private static ServiceRows withVehicles(int n) {
        ServiceRows x = new ServiceRows();
        for (int i = 0; i < n; i++) {
            x.vehicle(0, false);
        }
        return x;
    }

    private static void promise1NewObject() {
        ServiceRows x = new ServiceRows();
        for (int what = 0; what <= 4; what++) {
            int w = what;
            is("1: count(" + what + ")", 0, () -> x.count(w));
        }
        is("1: due(0)", -1, () -> x.due(0));
        refuses("1: barred(0)", UNKNOWN, () -> x.barred(0));
        refuses("1: defectAt(0, 0)", UNKNOWN, () -> x.defectAt(0, 0));
        refuses("1: done(0)", UNKNOWN, () -> x.done(0));
        x.vehicle(0, false);
        refuses("1: left without rules", UNKNOWN, () -> x.left(0, 0, 0));
        ServiceRows y = new ServiceRows();
        is("1: another object has its own vehicles", 0, () -> y.vehicle(0, false));
    }

    private static void promise2Vehicle() {
        ServiceRows x = new ServiceRows();
        refuses("2: station -1", RANGE, () -> x.vehicle(-1, false));
        refuses("2: station 10", RANGE, () -> x.vehicle(10, true));
        for (int i = 0; i < 30; i++) {
            int n = i;
            is("2: vehicle " + i, i, () -> x.vehicle(n % 10, n % 2 == 0));
        }
        refuses("2: a 31st vehicle", ROOM, () -> x.vehicle(0, false));
        refuses("2: range goes before room", RANGE, () -> x.vehicle(10, false));
        is("2: the last one is known", 0, () -> x.barred(29));
        refuses("2: none behind it", UNKNOWN, () -> x.barred(30));
    }

    private static void promise3Rule() {
        ServiceRows x = withVehicles(1);
        refuses("3: all 0", RANGE, () -> x.rule(0, 0, 0));
        refuses("3: kilometres -1", RANGE, () -> x.rule(-1, 1, 1));
        refuses("3: hours -1", RANGE, () -> x.rule(1, -1, 1));
        refuses("3: days -1", RANGE, () -> x.rule(1, 1, -1));
        refuses("3: kilometres 100001", RANGE, () -> x.rule(100001, 1, 1));
        refuses("3: hours 100001", RANGE, () -> x.rule(1, 100001, 1));
        refuses("3: days 100001", RANGE, () -> x.rule(1, 1, 100001));
        is("3: widest", 0, () -> x.rule(100000, 100000, 100000));
        is("3: by kilometres", 1, () -> x.rule(1, 0, 0));
        is("3: by hours", 2, () -> x.rule(0, 1, 0));
        is("3: by days", 3, () -> x.rule(0, 0, 1));
        for (int i = 4; i < 10; i++) {
            is("3: rule " + i, i, () -> x.rule(1, 2, 3));
        }
        refuses("3: an 11th rule", ROOM, () -> x.rule(1, 2, 3));
        refuses("3: range goes before room", RANGE, () -> x.rule(0, 0, 0));
        is("3: kilometres of the last", 1, () -> x.left(0, 9, 0));
        is("3: hours of the last", 2, () -> x.left(0, 9, 1));
        is("3: days of the last", 3, () -> x.left(0, 9, 2));
    }

    private static void promise4Small() {
        ServiceRows x = withVehicles(1);
        for (int i = 0; i < 4; i++) {
            x.defect(0, false);
        }
        is("4: 4 of 5", 0, () -> x.barred(0));
        takes("4: small(4)", () -> x.small(4));
        is("4: 4 of 4", 2, () -> x.barred(0));
        takes("4: small(1)", () -> x.small(1));
        is("4: 4 of 1", 2, () -> x.barred(0));
        takes("4: small(100)", () -> x.small(100));
        refuses("4: small(0)", RANGE, () -> x.small(0));
        refuses("4: small(101)", RANGE, () -> x.small(101));
        is("4: what is refused changes nothing", 0, () -> x.barred(0));
        ServiceRows y = withVehicles(1);
        for (int i = 0; i < 5; i++) {
            is("4: 5 at first, below", 0, () -> y.barred(0));
            y.defect(0, false);
        }
        is("4: 5 at first", 2, () -> y.barred(0));
    }

    private static void promise5Day() {
        ServiceRows x = new ServiceRows();
        refuses("5: day(-1)", RANGE, () -> x.day(-1));
        takes("5: day(0)", () -> x.day(0));
        takes("5: day(7)", () -> x.day(7));
        takes("5: the same day", () -> x.day(7));
        refuses("5: back", RANGE, () -> x.day(6));
        is("5: the day", 7, () -> x.count(0));
        refuses("5: day(100000)", RANGE, () -> x.day(100000));
        is("5: refused, the day", 7, () -> x.count(0));
        takes("5: day(99999)", () -> x.day(99999));
        is("5: the last day", 99999, () -> x.count(0));
    }

    private static void promise6Read() {
        ServiceRows x = withVehicles(2);
        x.rule(100000, 100000, 0);
        refuses("6: vehicle -1", UNKNOWN, () -> x.read(-1, 0, 0));
        refuses("6: vehicle 2, unknown goes before range", UNKNOWN, () -> x.read(2, -1, 0));
        refuses("6: kilometres -1", RANGE, () -> x.read(0, -1, 0));
        refuses("6: hours -1", RANGE, () -> x.read(0, 0, -1));
        refuses("6: kilometres 1000001", RANGE, () -> x.read(0, 1000001, 0));
        refuses("6: hours 1000001", RANGE, () -> x.read(0, 0, 1000001));
        takes("6: 10, 20", () -> x.read(0, 10, 20));
        takes("6: the same again", () -> x.read(0, 10, 20));
        refuses("6: kilometres lower", STATE, () -> x.read(0, 9, 30));
        refuses("6: hours lower", STATE, () -> x.read(0, 30, 19));
        refuses("6: both lower", STATE, () -> x.read(0, 9, 19));
        refuses("6: range goes before state", RANGE, () -> x.read(0, 9, 1000001));
        is("6: lower readings refused", 3, () -> x.count(3));
        is("6: kilometres stay", 99990, () -> x.left(0, 0, 0));
        is("6: hours stay", 99980, () -> x.left(0, 0, 1));
        takes("6: another vehicle", () -> x.read(1, 1, 2));
        takes("6: highest", () -> x.read(0, 1000000, 1000000));
        is("6: other kilometres", 99999, () -> x.left(1, 0, 0));
        is("6: other hours", 99998, () -> x.left(1, 0, 1));
        is("6: highest left", -900000, () -> x.left(0, 0, 0));
    }

    private static void promise7Left() {
        ServiceRows x = new ServiceRows();
        x.day(10);
        x.vehicle(0, false);
        x.day(15);
        x.vehicle(0, false);
        x.rule(1000, 50, 30);
        x.rule(0, 0, 8);
        x.read(0, 1200, 20);
        x.day(20);
        is("7: kilometres", -200, () -> x.left(0, 0, 0));
        is("7: hours", 30, () -> x.left(0, 0, 1));
        is("7: days since it came", 20, () -> x.left(0, 0, 2));
        is("7: days since the other came", 25, () -> x.left(1, 0, 2));
        is("7: another rule", -2, () -> x.left(0, 1, 2));
        refuses("7: not by kilometres", STATE, () -> x.left(0, 1, 0));
        refuses("7: not by hours", STATE, () -> x.left(0, 1, 1));
        refuses("7: vehicle -1", UNKNOWN, () -> x.left(-1, 0, 0));
        refuses("7: vehicle 2", UNKNOWN, () -> x.left(2, 0, 0));
        refuses("7: rule -1", UNKNOWN, () -> x.left(0, -1, 0));
        refuses("7: rule 2", UNKNOWN, () -> x.left(0, 2, 0));
        refuses("7: what -1", UNKNOWN, () -> x.left(0, 1, -1));
        refuses("7: what 3", UNKNOWN, () -> x.left(0, 1, 3));
        x.order(0);
        x.work(0, true, 0);
        x.read(0, 1300, 25);
        x.day(22);
        x.done(0);
        is("7: kilometres after service", 1000, () -> x.left(0, 0, 0));
        is("7: hours after service", 50, () -> x.left(0, 0, 1));
        is("7: days after service", 30, () -> x.left(0, 0, 2));
        is("7: the other rule had none", -4, () -> x.left(0, 1, 2));
        is("7: the other vehicle had none", 23, () -> x.left(1, 0, 2));
        x.rule(5, 0, 40);
        is("7: a rule that comes late, days", 28, () -> x.left(0, 2, 2));
        is("7: a rule that comes late, kilometres", -1295, () -> x.left(0, 2, 0));
    }

    private static void promise8Due() {
        ServiceRows x = withVehicles(3);
        x.rule(1000, 0, 0);
        x.rule(0, 300, 0);
        x.rule(3000, 0, 7);
        refuses("8: due(-1)", RANGE, () -> x.due(-1));
        x.read(0, 999, 0);
        is("8: 1 left is not due", -1, () -> x.due(0));
        x.read(0, 1000, 0);
        is("8: 0 left is due", 0, () -> x.due(0));
        is("8: only one", -1, () -> x.due(1));
        is("8: far behind", -1, () -> x.due(Integer.MAX_VALUE));
        x.read(2, 1000, 400);
        x.read(1, 1333, 399);
        // shares: 0.0: 0; 1.0: -333/1000; 1.1: -33/100; 2.0: 0; 2.1: -1/3
        long[] rows = {201, 100, 101, 0, 200, -1};
        for (int i = 0; i < rows.length; i++) {
            int n = i;
            is("8: due(" + i + ")", rows[i], () -> x.due(n));
        }
        x.day(7);
        // rule 2 is due by days for all, share 0
        long[] later = {201, 100, 101, 0, 2, 102, 200, 202, -1};
        for (int i = 0; i < later.length; i++) {
            int n = i;
            is("8: later due(" + i + ")", later[i], () -> x.due(n));
        }
        is("8: the order does not depend on earlier calls", 201, () -> x.due(0));
    }

    private static void promise8FullList() {
        ServiceRows x = withVehicles(30);
        for (int r = 0; r < 10; r++) {
            x.rule(r + 1, 0, 1);
        }
        for (int v = 0; v < 30; v++) {
            x.read(v, 1000 + v, 0);
        }
        for (int i = 0; i < 300; i++) {
            int n = i;
            is("8: full due(" + i + ")", 100 * (29 - i % 30) + i / 30, () -> x.due(n));
        }
        is("8: full due(300)", -1, () -> x.due(300));
    }

    private static void promise8LeastShare() {
        ServiceRows x = withVehicles(2);
        x.rule(100, 10, 0);
        x.read(0, 150, 12);
        x.read(1, 110, 14);
        is("8: the least share is by hours or by kilometres", 0, () -> x.due(0));
        is("8: the other behind it", 100, () -> x.due(1));
        ServiceRows y = withVehicles(2);
        y.rule(99999, 0, 0);
        y.rule(100000, 0, 0);
        y.read(0, 999999, 0);
        y.read(1, 999998, 0);
        // -900000/99999, -899999/100000, -899999/99999, -899998/100000
        is("8: exact fractions, 0", 0, () -> y.due(0));
        is("8: exact fractions, 1", 100, () -> y.due(1));
        is("8: exact fractions, 2", 1, () -> y.due(2));
        is("8: exact fractions, 3", 101, () -> y.due(3));
    }

    private static void promise9Defect() {
        ServiceRows x = withVehicles(2);
        refuses("9: vehicle -1", UNKNOWN, () -> x.defect(-1, true));
        refuses("9: vehicle 2", UNKNOWN, () -> x.defect(2, true));
        for (int i = 0; i < 100; i++) {
            int n = i;
            is("9: defect " + i, i, () -> x.defect(n % 2, n % 3 == 0));
        }
        refuses("9: a 101st defect", ROOM, () -> x.defect(0, false));
        refuses("9: unknown goes before room", UNKNOWN, () -> x.defect(2, false));
        is("9: the last one's vehicle", 1, () -> x.defectAt(99, 1));
        is("9: the last one is severe", 1, () -> x.defectAt(99, 2));
    }

    private static void promise10Test() {
        ServiceRows x = withVehicles(2);
        refuses("10: vehicle 2", UNKNOWN, () -> x.test(2, 0, 1, 0));
        refuses("10: vehicle -1", UNKNOWN, () -> x.test(-1, 0, 0, 0));
        refuses("10: low above high", RANGE, () -> x.test(0, 0, 1, 0));
        is("10: one point", 1, () -> x.test(0, 5, 5, 5) ? 1 : 0);
        is("10: the lower bound", 1, () -> x.test(0, -3, -3, 5) ? 1 : 0);
        is("10: the upper bound", 1, () -> x.test(0, 5, -3, 5) ? 1 : 0);
        is("10: below", 0, () -> x.test(0, -4, -3, 5) ? 1 : 0);
        is("10: above", 0, () -> x.test(0, 6, -3, 5) ? 1 : 0);
        is("10: widest bounds", 1,
                () -> x.test(0, 0, Integer.MIN_VALUE, Integer.MAX_VALUE) ? 1 : 0);
        x.defect(0, true);
        x.defect(0, true);
        x.defect(1, true);
        x.order(0);
        x.order(1);
        x.work(0, false, 0);
        x.work(1, false, 2);
        x.test(0, 1, 1, 1);
        is("10: a test before the repair", 0, () -> x.defectAt(0, 0));
        x.done(0);
        x.done(1);
        x.test(0, 2, 1, 1);
        is("10: not passed, still repaired", 1, () -> x.defectAt(0, 0));
        x.test(0, 1, 1, 1);
        is("10: passed, gone", 2, () -> x.defectAt(0, 0));
        is("10: an open one stays open", 0, () -> x.defectAt(1, 0));
        is("10: another vehicle's stays repaired", 1, () -> x.defectAt(2, 0));
    }

    private static void promise11Certificate() {
        ServiceRows x = withVehicles(2);
        refuses("11: vehicle 2", UNKNOWN, () -> x.certificate(2, 0, -2));
        refuses("11: vehicle -1", UNKNOWN, () -> x.certificate(-1, 0, 0));
        refuses("11: kind -1", UNKNOWN, () -> x.certificate(0, -1, 0));
        refuses("11: kind 5", UNKNOWN, () -> x.certificate(0, 5, -2));
        refuses("11: day -2", RANGE, () -> x.certificate(0, 0, -2));
        refuses("11: day 100000", RANGE, () -> x.certificate(0, 0, 100000));
        is("11: without certificates", 0, () -> x.barred(0));
        takes("11: day 0", () -> x.certificate(0, 0, 0));
        is("11: from its end on", 3, () -> x.barred(0));
        is("11: the other vehicle", 0, () -> x.barred(1));
        takes("11: none", () -> x.certificate(0, 0, -1));
        is("11: none is not past", 0, () -> x.barred(0));
        takes("11: kind 4", () -> x.certificate(0, 4, 10));
        takes("11: kind 3, last day", () -> x.certificate(0, 3, 99999));
        x.day(9);
        is("11: the day before", 0, () -> x.barred(0));
        x.day(10);
        is("11: its end", 3, () -> x.barred(0));
        x.day(11);
        is("11: behind it", 3, () -> x.barred(0));
        x.certificate(0, 4, 12);
        is("11: a later end", 0, () -> x.barred(0));
        x.certificate(0, 4, -1);
        x.day(99999);
        is("11: the last day", 3, () -> x.barred(0));
    }

    private static void promise12Order() {
        ServiceRows x = withVehicles(30);
        refuses("12: vehicle -1", UNKNOWN, () -> x.order(-1));
        refuses("12: vehicle 30", UNKNOWN, () -> x.order(30));
        for (int i = 0; i < 30; i++) {
            int n = i;
            is("12: order " + i, i, () -> x.order(n));
            is("12: order " + i + " is joined", i, () -> x.order(n));
        }
        is("12: open orders", 30, () -> x.count(2));
        for (int i = 0; i < 30; i++) {
            x.done(i);
        }
        is("12: none open", 0, () -> x.count(2));
        for (int i = 30; i < 60; i++) {
            int n = i;
            is("12: order " + i, i, () -> x.order(59 - n));
        }
        is("12: joined though there are 60", 59, () -> x.order(0));
        x.done(59);
        refuses("12: a 61st order", ROOM, () -> x.order(0));
        refuses("12: unknown goes before room", UNKNOWN, () -> x.order(30));
        is("12: open orders then", 29, () -> x.count(2));
    }

    private static void promise13Work() {
        ServiceRows x = withVehicles(2);
        x.rule(1, 0, 0);
        x.rule(1, 0, 0);
        x.rule(1, 0, 0);
        x.defect(0, false);
        x.defect(1, true);
        x.defect(0, true);
        x.order(0);
        refuses("13: order -1", UNKNOWN, () -> x.work(-1, true, 0));
        refuses("13: order 1", UNKNOWN, () -> x.work(1, true, 0));
        refuses("13: rule -1", UNKNOWN, () -> x.work(0, true, -1));
        refuses("13: rule 3", UNKNOWN, () -> x.work(0, true, 3));
        refuses("13: defect -1", UNKNOWN, () -> x.work(0, false, -1));
        refuses("13: defect 3", UNKNOWN, () -> x.work(0, false, 3));
        is("13: a rule", 1, () -> x.work(0, true, 1));
        is("13: a defect", 2, () -> x.work(0, false, 0));
        is("13: a rule of a defect's number", 3, () -> x.work(0, true, 0));
        is("13: a second defect", 4, () -> x.work(0, false, 2));
        refuses("13: the rule again", STATE, () -> x.work(0, true, 1));
        refuses("13: the defect again", STATE, () -> x.work(0, false, 0));
        refuses("13: another vehicle's", STATE, () -> x.work(0, false, 1));
        x.done(0);
        refuses("13: done", STATE, () -> x.work(0, true, 2));
        refuses("13: unknown goes before state", UNKNOWN, () -> x.work(0, true, 3));
        x.order(0);
        refuses("13: a defect that is gone", STATE, () -> x.work(1, false, 0));
        refuses("13: a defect that is repaired", STATE, () -> x.work(1, false, 2));
        is("13: the rule for a new order", 1, () -> x.work(1, true, 1));
        x.order(1);
        is("13: the rule for another vehicle", 1, () -> x.work(2, true, 1));
        is("13: its own defect", 2, () -> x.work(2, false, 1));
    }

    private static void promise14Part() {
        ServiceRows x = withVehicles(2);
        x.order(0);
        x.order(1);
        x.budget(1000);
        refuses("14: order -1", UNKNOWN, () -> x.part(-1, 0, 1, 1));
        refuses("14: order 2, before range", UNKNOWN, () -> x.part(2, 0, 0, 1));
        refuses("14: part -1", UNKNOWN, () -> x.part(0, -1, 1, 1));
        refuses("14: part 100", UNKNOWN, () -> x.part(0, 100, 0, 1));
        refuses("14: count 0", RANGE, () -> x.part(0, 0, 0, 1));
        refuses("14: count 101", RANGE, () -> x.part(0, 0, 101, 1));
        refuses("14: cents -1", RANGE, () -> x.part(0, 0, 1, -1));
        refuses("14: cents 1000001", RANGE, () -> x.part(0, 0, 1, 1000001));
        refuses("14: above the budget", STATE, () -> x.part(0, 0, 7, 143));
        is("14: the budget stays", 1000, () -> x.count(1));
        is("14: 3 of 200", 600, () -> x.part(0, 99, 3, 200));
        is("14: the budget has less", 400, () -> x.count(1));
        is("14: all of the budget", 400, () -> x.part(0, 99, 100, 4));
        is("14: for nothing", 0, () -> x.part(0, 0, 1, 0));
        refuses("14: nothing left", STATE, () -> x.part(0, 0, 1, 1));
        x.budget(100000000);
        is("14: dearest", 100000000, () -> x.part(1, 0, 100, 1000000));
        is("14: done", 1000, () -> x.done(0));
        refuses("14: the order is done", STATE, () -> x.part(0, 0, 1, 0));
        refuses("14: range goes before state", RANGE, () -> x.part(0, 0, 0, 0));
    }

    private static void promise14Room() {
        ServiceRows x = withVehicles(2);
        x.order(0);
        x.order(1);
        for (int i = 0; i < 100; i++) {
            int n = i;
            is("14: part " + i, 0, () -> x.part(n % 2, 5, 1, 0));
        }
        refuses("14: a 101st part", ROOM, () -> x.part(0, 5, 1, 0));
        refuses("14: the budget goes before room", STATE, () -> x.part(0, 5, 1, 1));
        x.budget(10);
        refuses("14: a 101st part with cents", ROOM, () -> x.part(0, 5, 1, 1));
        is("14: the budget stays without room", 10, () -> x.count(1));
        x.done(0);
        refuses("14: done orders keep their parts", ROOM, () -> x.part(1, 5, 1, 0));
        refuses("14: state goes before room", STATE, () -> x.part(0, 5, 1, 0));
        is("14: the order cost nothing", 0, () -> x.done(1));
    }

    private static void promise15Warranty() {
        ServiceRows x = withVehicles(2);
        x.order(0);
        x.order(1);
        refuses("15: vehicle -1", UNKNOWN, () -> x.warranty(-1, 0, 0));
        refuses("15: vehicle 2, before range", UNKNOWN, () -> x.warranty(2, 0, -1));
        refuses("15: part -1", UNKNOWN, () -> x.warranty(0, -1, 0));
        refuses("15: part 100", UNKNOWN, () -> x.warranty(0, 100, 0));
        refuses("15: day -1", RANGE, () -> x.warranty(0, 0, -1));
        refuses("15: day 100000", RANGE, () -> x.warranty(0, 0, 100000));
        takes("15: part 99 up to 10", () -> x.warranty(0, 99, 10));
        takes("15: part 0 up to 99999", () -> x.warranty(0, 0, 99999));
        is("15: holds", 0, () -> x.part(0, 99, 2, 50));
        refuses("15: not for another part", STATE, () -> x.part(0, 98, 2, 50));
        refuses("15: not for another vehicle", STATE, () -> x.part(1, 99, 2, 50));
        x.day(9);
        is("15: the last day", 0, () -> x.part(0, 99, 2, 50));
        x.day(10);
        refuses("15: the day itself not", STATE, () -> x.part(0, 99, 2, 50));
        x.budget(100);
        is("15: it costs then", 100, () -> x.part(0, 99, 2, 50));
        x.warranty(0, 99, 11);
        is("15: a longer one", 0, () -> x.part(0, 99, 2, 50));
        x.warranty(0, 99, 0);
        refuses("15: none", STATE, () -> x.part(0, 99, 2, 50));
        is("15: the order's cost", 100, () -> x.done(0));
    }

    private static void promise16Budget() {
        ServiceRows x = new ServiceRows();
        refuses("16: -1", RANGE, () -> x.budget(-1));
        refuses("16: 100000001", RANGE, () -> x.budget(100000001));
        is("16: 0", 0, () -> x.budget(0));
        for (int i = 1; i <= 9; i++) {
            is("16: 100000000 more", 100000000L * i, () -> x.budget(100000000));
        }
        is("16: 1 more", 900000001, () -> x.budget(1));
        refuses("16: too much", ROOM, () -> x.budget(100000000));
        is("16: it stays", 900000001, () -> x.count(1));
        is("16: full", 1000000000, () -> x.budget(99999999));
        is("16: 0 when full", 1000000000, () -> x.budget(0));
        refuses("16: 1 when full", ROOM, () -> x.budget(1));
        refuses("16: range goes before room", RANGE, () -> x.budget(100000001));
    }

    private static void promise17Done() {
        ServiceRows x = withVehicles(2);
        x.rule(100, 0, 5);
        x.rule(100, 0, 5);
        x.defect(0, false);
        x.defect(0, true);
        x.defect(0, false);
        x.defect(1, false);
        x.read(0, 40, 0);
        x.order(0);
        x.order(1);
        x.work(0, true, 1);
        x.work(0, false, 0);
        x.work(0, false, 1);
        x.work(1, false, 3);
        x.budget(50);
        x.part(0, 0, 2, 10);
        x.part(0, 0, 1, 5);
        x.part(1, 0, 1, 7);
        refuses("17: order -1", UNKNOWN, () -> x.done(-1));
        refuses("17: order 2", UNKNOWN, () -> x.done(2));
        x.day(3);
        is("17: what its parts cost", 25, () -> x.done(0));
        refuses("17: done already", STATE, () -> x.done(0));
        is("17: the rule had its service", 100, () -> x.left(0, 1, 0));
        is("17: on the day", 5, () -> x.left(0, 1, 2));
        is("17: the other rule had none", 60, () -> x.left(0, 0, 0));
        is("17: the small defect is gone", 2, () -> x.defectAt(0, 0));
        is("17: the severe one is repaired", 1, () -> x.defectAt(1, 0));
        is("17: one that was not in the order", 0, () -> x.defectAt(2, 0));
        is("17: one of the other order", 0, () -> x.defectAt(3, 0));
        is("17: the other order", 7, () -> x.done(1));
        is("17: the budget stays", 18, () -> x.count(1));
        is("17: a new order then", 2, () -> x.order(0));
        is("17: without parts", 0, () -> x.done(2));
    }

    private static void promise18Barred() {
        ServiceRows x = withVehicles(2);
        refuses("18: vehicle -1", UNKNOWN, () -> x.barred(-1));
        refuses("18: vehicle 2", UNKNOWN, () -> x.barred(2));
        x.rule(1000, 0, 0);
        x.small(2);
        x.read(0, 1099, 0);
        is("18: due, but not by a tenth", 0, () -> x.barred(0));
        x.read(0, 1100, 0);
        is("18: due by a tenth", 5, () -> x.barred(0));
        x.order(0);
        is("18: an open order goes before", 4, () -> x.barred(0));
        x.certificate(0, 1, 0);
        is("18: a certificate goes before", 3, () -> x.barred(0));
        x.defect(0, false);
        is("18: one small defect of two", 3, () -> x.barred(0));
        x.defect(0, false);
        is("18: small defects go before", 2, () -> x.barred(0));
        x.defect(0, false);
        is("18: or more", 2, () -> x.barred(0));
        x.defect(0, true);
        is("18: a severe one goes before", 1, () -> x.barred(0));
        is("18: the other vehicle", 0, () -> x.barred(1));
        x.work(0, false, 3);
        x.work(0, false, 2);
        x.work(0, false, 1);
        x.done(0);
        is("18: repaired and not tested", 1, () -> x.barred(0));
        x.test(0, 0, 0, 0);
        is("18: tested", 3, () -> x.barred(0));
        x.certificate(0, 1, -1);
        is("18: the rule had no service", 5, () -> x.barred(0));
        x.order(0);
        x.work(1, true, 0);
        x.done(1);
        is("18: then it had", 0, () -> x.barred(0));
    }

    private static void promise18AnyMeasure() {
        ServiceRows x = withVehicles(1);
        x.rule(100000, 7, 100000);
        x.read(0, 0, 7);
        is("18: 0 of 7 hours", 0, () -> x.barred(0));
        x.read(0, 0, 8);
        is("18: -1 of 7 hours", 5, () -> x.barred(0));
        ServiceRows y = withVehicles(1);
        y.rule(0, 0, 11);
        y.day(12);
        is("18: -1 of 11 days", 0, () -> y.barred(0));
        y.day(13);
        is("18: -2 of 11 days", 5, () -> y.barred(0));
    }

    private static void promise19Spare() {
        ServiceRows x = new ServiceRows();
        x.vehicle(5, true);
        refuses("19: vehicle -1", UNKNOWN, () -> x.spare(-1));
        refuses("19: vehicle 1", UNKNOWN, () -> x.spare(1));
        is("19: not itself", -1, () -> x.spare(0));
        x.vehicle(5, false);
        is("19: not one that is no spare", -1, () -> x.spare(0));
        x.vehicle(9, true);
        is("19: a far one", 2, () -> x.spare(0));
        x.vehicle(7, true);
        is("19: a nearer one", 3, () -> x.spare(0));
        x.vehicle(3, true);
        is("19: of the same the lower station", 4, () -> x.spare(0));
        x.vehicle(3, true);
        is("19: there the lowest", 4, () -> x.spare(0));
        is("19: for the other at that station", 0, () -> x.spare(1));
        x.defect(4, true);
        is("19: a barred one not", 5, () -> x.spare(0));
        x.order(5);
        is("19: nor one with an open order", 3, () -> x.spare(0));
        is("19: for a barred one", 0, () -> x.spare(4));
        x.certificate(3, 0, 0);
        x.certificate(2, 0, 0);
        is("19: none", -1, () -> x.spare(0));
        is("19: for the barred ones still one", 0, () -> x.spare(2));
    }

    private static void promise20Oil() {
        ServiceRows x = withVehicles(2);
        refuses("20: vehicle -1", UNKNOWN, () -> x.oil(-1, 0));
        refuses("20: vehicle 2, before range", UNKNOWN, () -> x.oil(2, -1));
        refuses("20: -1", RANGE, () -> x.oil(0, -1));
        refuses("20: 100001", RANGE, () -> x.oil(0, 100001));
        is("20: 0", 0, () -> x.oil(0, 0));
        is("20: 100000", 100000, () -> x.oil(0, 100000));
        is("20: all so far", 100007, () -> x.oil(0, 7));
        is("20: the other vehicle", 1, () -> x.oil(1, 1));
    }

    /** More calls than promised: within 512 the oil cannot reach its end. */
    private static void promise20Room() {
        ServiceRows x = withVehicles(1);
        for (int i = 0; i < 9999; i++) {
            x.oil(0, 100000);
        }
        is("20: nearly full", 999900001, () -> x.oil(0, 1));
        refuses("20: above the end", ROOM, () -> x.oil(0, 100000));
        is("20: full", 1000000000, () -> x.oil(0, 99999));
        refuses("20: 1 when full", ROOM, () -> x.oil(0, 1));
        refuses("20: range goes before room", RANGE, () -> x.oil(0, 100001));
        x.read(0, 999999, 0);
        is("20: upper number when full", 100000000000L, () -> x.oilPer(0, 0));
        is("20: lower number when full", 999999, () -> x.oilPer(0, 1));
    }

    private static void promise21OilPer() {
        ServiceRows x = withVehicles(1);
        refuses("21: vehicle -1", UNKNOWN, () -> x.oilPer(-1, 0));
        refuses("21: vehicle 1", UNKNOWN, () -> x.oilPer(1, 0));
        refuses("21: what -1", UNKNOWN, () -> x.oilPer(0, -1));
        refuses("21: what 2, before the kilometres", UNKNOWN, () -> x.oilPer(0, 2));
        refuses("21: no kilometres", NO_KILOMETRES, () -> x.oilPer(0, 0));
        refuses("21: no kilometres, lower number", NO_KILOMETRES, () -> x.oilPer(0, 1));
        x.read(0, 0, 10);
        refuses("21: hours alone", NO_KILOMETRES, () -> x.oilPer(0, 0));
        x.vehicle(0, false);
        x.oil(1, 5);
        refuses("21: oil, but no kilometres", NO_KILOMETRES, () -> x.oilPer(1, 0));
        refuses("21: oil, lower number", NO_KILOMETRES, () -> x.oilPer(1, 1));
        x.read(0, 700, 10);
        is("21: no oil, upper", 0, () -> x.oilPer(0, 0));
        is("21: no oil, lower", 1, () -> x.oilPer(0, 1));
        x.oil(0, 6);
        is("21: 600/700, upper", 6, () -> x.oilPer(0, 0));
        is("21: 600/700, lower", 7, () -> x.oilPer(0, 1));
        x.read(0, 1000000, 10);
        is("21: 600/1000000, upper", 3, () -> x.oilPer(0, 0));
        is("21: 600/1000000, lower", 5000, () -> x.oilPer(0, 1));
        ServiceRows y = withVehicles(1);
        y.read(0, 1, 0);
        for (int i = 0; i < 400; i++) {
            y.oil(0, 100000);
        }
        is("21: a large upper number", 4000000000L, () -> y.oilPer(0, 0));
        is("21: with the lower number 1", 1, () -> y.oilPer(0, 1));
    }

    private static void promise22DefectAt() {
        ServiceRows x = withVehicles(2);
        x.defect(1, true);
        x.defect(0, false);
        refuses("22: defect -1", UNKNOWN, () -> x.defectAt(-1, 0));
        refuses("22: defect 2", UNKNOWN, () -> x.defectAt(2, 0));
        refuses("22: what -1", UNKNOWN, () -> x.defectAt(0, -1));
        refuses("22: what 3", UNKNOWN, () -> x.defectAt(0, 3));
        is("22: open", 0, () -> x.defectAt(0, 0));
        is("22: its vehicle", 1, () -> x.defectAt(0, 1));
        is("22: severe", 1, () -> x.defectAt(0, 2));
        is("22: the other's vehicle", 0, () -> x.defectAt(1, 1));
        is("22: small", 0, () -> x.defectAt(1, 2));
        x.order(1);
        x.work(0, false, 0);
        is("22: in an order, open", 0, () -> x.defectAt(0, 0));
        x.done(0);
        is("22: repaired", 1, () -> x.defectAt(0, 0));
        x.test(1, 0, 0, 0);
        is("22: gone", 2, () -> x.defectAt(0, 0));
        is("22: severe still", 1, () -> x.defectAt(0, 2));
    }

    private static void promise23Count() {
        ServiceRows x = withVehicles(3);
        refuses("23: -1", UNKNOWN, () -> x.count(-1));
        refuses("23: 5", UNKNOWN, () -> x.count(5));
        x.day(4);
        x.budget(30);
        x.order(0);
        x.order(1);
        x.order(0);
        x.read(0, 5, 5);
        refuses("23: a lower reading", STATE, () -> x.read(0, 4, 5));
        is("23: the day", 4, () -> x.count(0));
        is("23: the budget", 30, () -> x.count(1));
        is("23: open orders", 2, () -> x.count(2));
        is("23: lower readings", 1, () -> x.count(3));
        is("23: barred by orders", 2, () -> x.count(4));
        x.defect(0, true);
        x.certificate(2, 0, 1);
        is("23: barred", 3, () -> x.count(4));
        x.done(1);
        is("23: one order done", 1, () -> x.count(2));
        is("23: one barred less", 2, () -> x.count(4));
    }

    /** With every row full the last places are used and nothing behind them. */
    private static void fullRows() {
        ServiceRows x = new ServiceRows();
        for (int v = 0; v < 30; v++) {
            x.vehicle(v % 10, v == 29 || v == 3);
        }
        for (int r = 0; r < 10; r++) {
            x.rule(10, 10, 10);
        }
        for (int d = 0; d < 100; d++) {
            x.defect(d < 98 ? 0 : 29, d != 98);
        }
        for (int o = 0; o < 59; o++) {
            x.order(1);
            x.done(o);
        }
        x.read(29, 12, 12);
        x.day(9);
        for (int what = 0; what < 3; what++) {
            int w = what;
            is("full: left", w == 2 ? 1 : -2, () -> x.left(29, 9, w));
        }
        is("full: due", 2900, () -> x.due(0));
        is("full: due, the last", 2909, () -> x.due(9));
        is("full: due, none", -1, () -> x.due(10));
        is("full: the only spare that is not barred", 3, () -> x.spare(28));
        is("full: for that one there is none", -1, () -> x.spare(3));
        is("full: the last order", 59, () -> x.order(29));
        for (int r = 0; r < 10; r++) {
            int rule = r;
            is("full: work", r + 1, () -> x.work(59, true, rule));
        }
        is("full: a small defect", 11, () -> x.work(59, false, 98));
        is("full: a severe defect", 12, () -> x.work(59, false, 99));
        x.warranty(29, 99, 99999);
        x.certificate(29, 4, 9);
        is("full: part", 0, () -> x.part(59, 99, 100, 1000000));
        is("full: open orders", 1, () -> x.count(2));
        is("full: done", 0, () -> x.done(59));
        is("full: none open", 0, () -> x.count(2));
        is("full: served", 10, () -> x.left(29, 9, 2));
        is("full: gone", 2, () -> x.defectAt(98, 0));
        is("full: repaired", 1, () -> x.defectAt(99, 0));
        is("full: to be tested", 1, () -> x.barred(29));
        is("full: test", 1, () -> x.test(29, 0, 0, 0) ? 1 : 0);
        is("full: tested", 2, () -> x.defectAt(99, 0));
        is("full: certificate", 3, () -> x.barred(29));
        x.certificate(29, 4, -1);
        is("full: free", 0, () -> x.barred(29));
        is("full: barred", 1, () -> x.count(4));
        is("full: the last spare is the nearest", 29, () -> x.spare(28));
    }

    public static void main(String[] args) {
        promise1NewObject();
        promise2Vehicle();
        promise3Rule();
        promise4Small();
        promise5Day();
        promise6Read();
        promise7Left();
        promise8Due();
        promise8FullList();
        promise8LeastShare();
        promise9Defect();
        promise10Test();
        promise11Certificate();
        promise12Order();
        promise13Work();
        promise14Part();
        promise14Room();
        promise15Warranty();
        promise16Budget();
        promise17Done();
        promise18Barred();
        promise18AnyMeasure();
        promise19Spare();
        promise20Oil();
        promise20Room();
        promise21OilPer();
        promise22DefectAt();
        promise23Count();
        fullRows();
        System.out.println(calls + " calls, " + wrong + " wrong");
        if (wrong != 0) {
            System.exit(1);
        }
    }
}
