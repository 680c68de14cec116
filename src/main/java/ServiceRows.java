/**
 * Servicing of vehicles: rules by kilometres, hours and days, defects that bar, certificates with
 * ends, work orders with parts, warranty and a budget, tests, spares, oil as exact fractions.
 *
 * <p>Each public call looks at its arguments in the document's order of refusals (unknown, range,
 * state, room) before it changes anything, so that what is refused changes nothing.
 */
public final class ServiceRows {
    private static final int MOST_VEHICLES = 30;
    private static final int MOST_RULES = 10;
    private static final int MOST_DEFECTS = 100;
    private static final int MOST_ORDERS = 60;
    private static final int MOST_PARTS = 100;

    private static final int LAST_DAY = 99999;
    private static final int LAST_STATION = 9;
    private static final int LAST_INTERVAL = 100000;
    private static final int LAST_READING = 1000000;
    private static final int LAST_SMALL = 100;
    private static final int LAST_COUNT = 100;
    private static final int LAST_CENTS = 1000000;
    private static final int LAST_PAYMENT = 100000000;
    private static final int LAST_BUDGET = 1000000000;
    private static final int LAST_FILLING = 100000;
    private static final int LAST_OIL = 1000000000;

    private static final int KINDS = 5;
    private static final int PART_NUMBERS = 100;
    private static final int SMALL_AT_FIRST = 5;

    private static final int MOST_STEPS = 1000;
    private static final int NONE = -1;

    private static final int KILOMETRES = 0;
    private static final int HOURS = 1;
    private static final int DAYS = 2;
    private static final int MEASURES = 3;

    private static final int OPEN = 0;
    private static final int REPAIRED = 1;
    private static final int GONE = 2;

    private final Fleet fleet;
    private final RuleRows rules;
    private final DefectRows defects;
    private final OrderRows orders;
    private final DueRows dueRows;
    private int today;
    private int money;
    private int smallLimit;
    private int lowerReadings;

    public ServiceRows() {
        fleet = new Fleet();
        rules = new RuleRows();
        defects = new DefectRows();
        orders = new OrderRows();
        dueRows = new DueRows();
        today = 0;
        money = 0;
        smallLimit = SMALL_AT_FIRST;
        lowerReadings = 0;
    }

    public int vehicle(int station, boolean spare)
            throws IndexOutOfBoundsException, UnsupportedOperationException {
        needRange(station, 0, LAST_STATION);
        needRoom(fleet.size(), MOST_VEHICLES);
        int number = fleet.add(station, spare);
        rules.startVehicle(number, today);
        return number;
    }

    public int rule(int kilometres, int hours, int days)
            throws IndexOutOfBoundsException, UnsupportedOperationException {
        needRange(kilometres, 0, LAST_INTERVAL);
        needRange(hours, 0, LAST_INTERVAL);
        needRange(days, 0, LAST_INTERVAL);
        if (kilometres == 0 && hours == 0 && days == 0) {
            throw new IndexOutOfBoundsException("a rule needs an interval");
        }
        needRoom(rules.size(), MOST_RULES);
        return rules.add(kilometres, hours, days);
    }

    public void small(int n) throws IndexOutOfBoundsException {
        needRange(n, 1, LAST_SMALL);
        smallLimit = n;
    }

    public void day(int d) throws IndexOutOfBoundsException {
        needRange(d, today, LAST_DAY);
        today = d;
    }

    public void read(int vehicle, int kilometres, int hours)
            throws IllegalArgumentException, IndexOutOfBoundsException, IllegalStateException {
        needKnown(vehicle, fleet.size());
        needRange(kilometres, 0, LAST_READING);
        needRange(hours, 0, LAST_READING);
        if (kilometres < fleet.kilometresOf(vehicle) || hours < fleet.hoursOf(vehicle)) {
            lowerReadings++;
            throw new IllegalStateException("a reading is lower than the last");
        }
        fleet.setReadings(vehicle, kilometres, hours);
    }

    public int left(int vehicle, int rule, int what)
            throws IllegalArgumentException, IllegalStateException {
        needKnown(vehicle, fleet.size());
        needKnown(rule, rules.size());
        needKnown(what, MEASURES);
        if (!rules.isBy(rule, what)) {
            throw new IllegalStateException("the rule is not by that");
        }
        return leftBy(vehicle, rule, what);
    }

    public int due(int i) throws IndexOutOfBoundsException {
        if (i < 0) {
            throw new IndexOutOfBoundsException("rows are counted from 0 on");
        }
        listDueRows();
        return dueRows.rowAt(i);
    }

    public int defect(int vehicle, boolean severe)
            throws IllegalArgumentException, UnsupportedOperationException {
        needKnown(vehicle, fleet.size());
        needRoom(defects.size(), MOST_DEFECTS);
        return defects.add(vehicle, severe);
    }

    public boolean test(int vehicle, int value, int low, int high)
            throws IllegalArgumentException, IndexOutOfBoundsException {
        needKnown(vehicle, fleet.size());
        if (low > high) {
            throw new IndexOutOfBoundsException("low is above high");
        }
        boolean passed = low <= value && value <= high;
        if (passed) {
            defects.clearRepaired(vehicle);
        }
        return passed;
    }

    public void certificate(int vehicle, int kind, int until)
            throws IllegalArgumentException, IndexOutOfBoundsException {
        needKnown(vehicle, fleet.size());
        needKnown(kind, KINDS);
        needRange(until, NONE, LAST_DAY);
        fleet.setCertificate(vehicle, kind, until);
    }

    public int order(int vehicle)
            throws IllegalArgumentException, UnsupportedOperationException {
        needKnown(vehicle, fleet.size());
        int open = orders.openOf(vehicle);
        if (open != NONE) {
            return open;
        }
        needRoom(orders.size(), MOST_ORDERS);
        return orders.add(vehicle);
    }

    public int work(int order, boolean rule, int k)
            throws IllegalArgumentException, IllegalStateException {
        needKnown(order, orders.size());
        needKnown(k, rule ? rules.size() : defects.size());
        needOpen(order);
        if (rule) {
            takeRule(order, k);
        } else {
            takeDefect(order, k);
        }
        return orders.worksOf(order);
    }

    public int part(int order, int part, int count, int cents)
            throws IllegalArgumentException, IndexOutOfBoundsException, IllegalStateException,
                    UnsupportedOperationException {
        needKnown(order, orders.size());
        needKnown(part, PART_NUMBERS);
        needRange(count, 1, LAST_COUNT);
        needRange(cents, 0, LAST_CENTS);
        needOpen(order);
        int cost = isUnderWarranty(orders.vehicleOf(order), part) ? 0 : count * cents;
        if (cost > money) {
            throw new IllegalStateException("it costs more than the budget has");
        }
        needRoom(orders.parts(), MOST_PARTS);
        money -= cost;
        orders.addPart(order, cost);
        return cost;
    }

    public void warranty(int vehicle, int part, int until)
            throws IllegalArgumentException, IndexOutOfBoundsException {
        needKnown(vehicle, fleet.size());
        needKnown(part, PART_NUMBERS);
        needRange(until, 0, LAST_DAY);
        fleet.setWarranty(vehicle, part, until);
    }

    public int budget(int cents) throws IndexOutOfBoundsException, UnsupportedOperationException {
        needRange(cents, 0, LAST_PAYMENT);
        if (cents > LAST_BUDGET - money) {
            throw new UnsupportedOperationException("the budget would be too large");
        }
        money += cents;
        return money;
    }

    public int done(int order) throws IllegalArgumentException, IllegalStateException {
        needKnown(order, orders.size());
        needOpen(order);
        serveRules(order);
        defects.repair(order);
        orders.close(order);
        return orders.costOf(order);
    }

    public int barred(int vehicle) throws IllegalArgumentException {
        needKnown(vehicle, fleet.size());
        return reasonOf(vehicle);
    }

    public int spare(int vehicle) throws IllegalArgumentException {
        needKnown(vehicle, fleet.size());
        int best = NONE;
        for (int other = 0; other < fleet.size(); other++) {
            if (other != vehicle && fleet.isSpare(other)
                    && (best == NONE || fleet.isNearer(vehicle, other, best))
                    && reasonOf(other) == 0) {
                best = other;
            }
        }
        return best;
    }

    public int oil(int vehicle, int ml)
            throws IllegalArgumentException, IndexOutOfBoundsException,
                    UnsupportedOperationException {
        needKnown(vehicle, fleet.size());
        needRange(ml, 0, LAST_FILLING);
        if (ml > LAST_OIL - fleet.oilOf(vehicle)) {
            throw new UnsupportedOperationException("too much oil");
        }
        fleet.addOil(vehicle, ml);
        return fleet.oilOf(vehicle);
    }

    public long oilPer(int vehicle, int what)
            throws IllegalArgumentException, ArithmeticException {
        needKnown(vehicle, fleet.size());
        needKnown(what, 2);
        long lower = fleet.kilometresOf(vehicle);
        if (lower <= 0) {
            throw new ArithmeticException("it has no kilometres");
        }
        long upper = 100L * fleet.oilOf(vehicle);
        long divisor = commonDivisor(upper, lower);
        return (what == 0 ? upper : lower) / divisor;
    }

    public int defectAt(int defect, int what) throws IllegalArgumentException {
        needKnown(defect, defects.size());
        switch (what) {
            case 0:
                return defects.stateOf(defect);
            case 1:
                return defects.vehicleOf(defect);
            case 2:
                return defects.isSevere(defect) ? 1 : 0;
            default:
                throw new IllegalArgumentException("no such what");
        }
    }

    public int count(int what) throws IllegalArgumentException {
        switch (what) {
            case 0:
                return today;
            case 1:
                return money;
            case 2:
                return orders.openOnes();
            case 3:
                return lowerReadings;
            case 4:
                return barredOnes();
            default:
                throw new IllegalArgumentException("no such what");
        }
    }

    private static void needKnown(int number, int size) {
        if (number < 0 || number >= size) {
            throw new IllegalArgumentException("an unknown number");
        }
    }

    private static void needRange(int number, int low, int high) {
        if (number < low || number > high) {
            throw new IndexOutOfBoundsException("a number outside its range");
        }
    }

    private static void needRoom(int size, int most) {
        if (size >= most) {
            throw new UnsupportedOperationException("no room");
        }
    }

    private void needOpen(int order) {
        if (!orders.isOpen(order)) {
            throw new IllegalStateException("the order is done");
        }
    }

    private int nowOf(int vehicle, int what) {
        if (what == DAYS) {
            return today;
        }
        return what == HOURS ? fleet.hoursOf(vehicle) : fleet.kilometresOf(vehicle);
    }

    private int leftBy(int vehicle, int rule, int what) {
        int passed = nowOf(vehicle, what) - rules.since(vehicle, rule, what);
        return rules.interval(rule, what) - passed;
    }

    /** By which measure the share is least; every rule is by one measure at least. */
    private int leastBy(int vehicle, int rule) {
        int least = KILOMETRES;
        for (int what = HOURS; what <= DAYS; what++) {
            if (rules.isBy(rule, what) && (!rules.isBy(rule, least)
                    || isBelow(leftBy(vehicle, rule, what), rules.interval(rule, what),
                            leftBy(vehicle, rule, least), rules.interval(rule, least)))) {
                least = what;
            }
        }
        return least;
    }

    /** Compares two fractions crosswise: with lower numbers above 0 that is exact. */
    private static boolean isBelow(int upper, int lower, int otherUpper, int otherLower) {
        return (long) upper * otherLower < (long) otherUpper * lower;
    }

    private void listDueRows() {
        dueRows.clear();
        for (int vehicle = 0; vehicle < fleet.size(); vehicle++) {
            for (int rule = 0; rule < rules.size(); rule++) {
                int what = leastBy(vehicle, rule);
                int rest = leftBy(vehicle, rule, what);
                if (rest <= 0) {
                    dueRows.insert(vehicle, rule, rest, rules.interval(rule, what));
                }
            }
        }
    }

    private void takeRule(int order, int rule) {
        if (orders.hasRule(order, rule)) {
            throw new IllegalStateException("the order has the rule already");
        }
        orders.addRule(order, rule);
    }

    private void takeDefect(int order, int defect) {
        if (defects.vehicleOf(defect) != orders.vehicleOf(order)) {
            throw new IllegalStateException("the defect is another vehicle's");
        }
        if (defects.stateOf(defect) != OPEN) {
            throw new IllegalStateException("the defect is not open");
        }
        if (defects.orderOf(defect) == order) {
            throw new IllegalStateException("the order has the defect already");
        }
        defects.setOrder(defect, order);
        orders.addDefect(order);
    }

    private boolean isUnderWarranty(int vehicle, int part) {
        return today < fleet.warrantyOf(vehicle, part);
    }

    private void serveRules(int order) {
        int vehicle = orders.vehicleOf(order);
        for (int rule = 0; rule < rules.size(); rule++) {
            if (orders.hasRule(order, rule)) {
                for (int what = 0; what < MEASURES; what++) {
                    rules.setSince(vehicle, rule, what, nowOf(vehicle, what));
                }
            }
        }
    }

    private int reasonOf(int vehicle) {
        if (defects.hasSevere(vehicle)) {
            return 1;
        }
        if (defects.openSmallOnes(vehicle) >= smallLimit) {
            return 2;
        }
        if (fleet.hasPastCertificate(vehicle, today)) {
            return 3;
        }
        if (orders.openOf(vehicle) != NONE) {
            return 4;
        }
        return hasOverdueRule(vehicle) ? 5 : 0;
    }

    /** The least share is -1 / 10 or less just when one of the shares is. */
    private boolean hasOverdueRule(int vehicle) {
        for (int rule = 0; rule < rules.size(); rule++) {
            for (int what = 0; what < MEASURES; what++) {
                if (rules.isBy(rule, what)
                        && 10 * leftBy(vehicle, rule, what) <= -rules.interval(rule, what)) {
                    return true;
                }
            }
        }
        return false;
    }

    private int barredOnes() {
        int found = 0;
        for (int vehicle = 0; vehicle < fleet.size(); vehicle++) {
            if (reasonOf(vehicle) != 0) {
                found++;
            }
        }
        return found;
    }

    /** Euclid's way, in a few dozen steps; never below 1, so that it can always divide. */
    private static long commonDivisor(long a, long b) {
        long divisor = a;
        long rest = b;
        for (int step = 0; step < MOST_STEPS && rest > 0; step++) {
            long next = divisor % rest;
            divisor = rest;
            rest = next;
        }
        return Math.max(divisor, 1);
    }

    /** The vehicles with what is known of each of them alone. */
    private static final class Fleet {
        private final int[] stations = new int[MOST_VEHICLES];
        private final boolean[] spares = new boolean[MOST_VEHICLES];
        private final int[] kilometres = new int[MOST_VEHICLES];
        private final int[] hours = new int[MOST_VEHICLES];
        private final int[] oils = new int[MOST_VEHICLES];
        private final int[] certificates = new int[MOST_VEHICLES * KINDS];
        private final int[] warranties = new int[MOST_VEHICLES * PART_NUMBERS];
        private int size = 0;

        int size() {
            return size;
        }

        int add(int station, boolean isSpare) {
            stations[size] = station;
            spares[size] = isSpare;
            for (int kind = 0; kind < KINDS; kind++) {
                setCertificate(size, kind, NONE);
            }
            size++;
            return size - 1;
        }

        boolean isSpare(int vehicle) {
            return spares[vehicle];
        }

        /** Whether one stands before another as a spare; of two at one station neither does. */
        boolean isNearer(int vehicle, int one, int another) {
            int away = Math.abs(stations[one] - stations[vehicle]);
            int anotherAway = Math.abs(stations[another] - stations[vehicle]);
            return away < anotherAway
                    || away == anotherAway && stations[one] < stations[another];
        }

        int kilometresOf(int vehicle) {
            return kilometres[vehicle];
        }

        int hoursOf(int vehicle) {
            return hours[vehicle];
        }

        void setReadings(int vehicle, int newKilometres, int newHours) {
            kilometres[vehicle] = newKilometres;
            hours[vehicle] = newHours;
        }

        int oilOf(int vehicle) {
            return oils[vehicle];
        }

        void addOil(int vehicle, int ml) {
            oils[vehicle] += ml;
        }

        void setCertificate(int vehicle, int kind, int until) {
            certificates[vehicle * KINDS + kind] = until;
        }

        boolean hasPastCertificate(int vehicle, int today) {
            for (int kind = 0; kind < KINDS; kind++) {
                int until = certificates[vehicle * KINDS + kind];
                if (until != NONE && until <= today) {
                    return true;
                }
            }
            return false;
        }

        int warrantyOf(int vehicle, int number) {
            return warranties[vehicle * PART_NUMBERS + number];
        }

        void setWarranty(int vehicle, int number, int until) {
            warranties[vehicle * PART_NUMBERS + number] = until;
        }
    }

    /** The rules, and for each vehicle the readings and the day since which each of them runs. */
    private static final class RuleRows {
        private final int[] intervals = new int[MOST_RULES * MEASURES];
        private final int[] starts = new int[MOST_VEHICLES * MOST_RULES * MEASURES];
        private int size = 0;

        int size() {
            return size;
        }

        int add(int kilometres, int hours, int days) {
            intervals[size * MEASURES + KILOMETRES] = kilometres;
            intervals[size * MEASURES + HOURS] = hours;
            intervals[size * MEASURES + DAYS] = days;
            size++;
            return size - 1;
        }

        /** For the rules to come too: they also run since the day when the vehicle came. */
        void startVehicle(int vehicle, int today) {
            for (int rule = 0; rule < MOST_RULES; rule++) {
                setSince(vehicle, rule, DAYS, today);
            }
        }

        int interval(int rule, int what) {
            return intervals[rule * MEASURES + what];
        }

        boolean isBy(int rule, int what) {
            return interval(rule, what) != 0;
        }

        int since(int vehicle, int rule, int what) {
            return starts[(vehicle * MOST_RULES + rule) * MEASURES + what];
        }

        void setSince(int vehicle, int rule, int what, int reading) {
            starts[(vehicle * MOST_RULES + rule) * MEASURES + what] = reading;
        }
    }

    /** The defects; each comes to one order at most, for it is open no more when that is done. */
    private static final class DefectRows {
        private final int[] vehicles = new int[MOST_DEFECTS];
        private final boolean[] severe = new boolean[MOST_DEFECTS];
        private final int[] states = new int[MOST_DEFECTS];
        private final int[] orders = new int[MOST_DEFECTS];
        private int size = 0;

        int size() {
            return size;
        }

        int add(int vehicle, boolean isSevere) {
            vehicles[size] = vehicle;
            severe[size] = isSevere;
            states[size] = OPEN;
            orders[size] = NONE;
            size++;
            return size - 1;
        }

        int vehicleOf(int number) {
            return vehicles[number];
        }

        boolean isSevere(int number) {
            return severe[number];
        }

        int stateOf(int number) {
            return states[number];
        }

        int orderOf(int number) {
            return orders[number];
        }

        void setOrder(int number, int order) {
            orders[number] = order;
        }

        void repair(int order) {
            for (int number = 0; number < size; number++) {
                if (orders[number] == order && states[number] == OPEN) {
                    states[number] = severe[number] ? REPAIRED : GONE;
                }
            }
        }

        /** Only severe ones are ever in the state repaired. */
        void clearRepaired(int vehicle) {
            for (int number = 0; number < size; number++) {
                if (vehicles[number] == vehicle && states[number] == REPAIRED) {
                    states[number] = GONE;
                }
            }
        }

        boolean hasSevere(int vehicle) {
            for (int number = 0; number < size; number++) {
                if (vehicles[number] == vehicle && severe[number] && states[number] != GONE) {
                    return true;
                }
            }
            return false;
        }

        int openSmallOnes(int vehicle) {
            int found = 0;
            for (int number = 0; number < size; number++) {
                if (vehicles[number] == vehicle && !severe[number] && states[number] == OPEN) {
                    found++;
                }
            }
            return found;
        }
    }

    /** The work orders; of their parts only the number of all and each order's cost is asked. */
    private static final class OrderRows {
        private final int[] vehicles = new int[MOST_ORDERS];
        private final boolean[] open = new boolean[MOST_ORDERS];
        private final boolean[] ruleMarks = new boolean[MOST_ORDERS * MOST_RULES];
        private final int[] works = new int[MOST_ORDERS];
        private final int[] costs = new int[MOST_ORDERS];
        private int size = 0;
        private int parts = 0;

        int size() {
            return size;
        }

        int parts() {
            return parts;
        }

        int add(int vehicle) {
            vehicles[size] = vehicle;
            open[size] = true;
            size++;
            return size - 1;
        }

        int vehicleOf(int number) {
            return vehicles[number];
        }

        boolean isOpen(int number) {
            return open[number];
        }

        int openOf(int vehicle) {
            for (int number = 0; number < size; number++) {
                if (open[number] && vehicles[number] == vehicle) {
                    return number;
                }
            }
            return NONE;
        }

        int openOnes() {
            int found = 0;
            for (int number = 0; number < size; number++) {
                if (open[number]) {
                    found++;
                }
            }
            return found;
        }

        boolean hasRule(int number, int rule) {
            return ruleMarks[number * MOST_RULES + rule];
        }

        void addRule(int number, int rule) {
            ruleMarks[number * MOST_RULES + rule] = true;
            works[number]++;
        }

        void addDefect(int number) {
            works[number]++;
        }

        int worksOf(int number) {
            return works[number];
        }

        void addPart(int number, int cost) {
            costs[number] += cost;
            parts++;
        }

        int costOf(int number) {
            return costs[number];
        }

        void close(int number) {
            open[number] = false;
        }
    }

    /** The due rows in their order, listed anew for each call in rows made once. */
    private static final class DueRows {
        /** The power of two with which jumps reach every place of a full list. */
        private static final int WIDEST_JUMP = 256;

        private final int[] slots = new int[MOST_VEHICLES * MOST_RULES];
        private final int[] uppers = new int[MOST_VEHICLES * MOST_RULES];
        private final int[] lowers = new int[MOST_VEHICLES * MOST_RULES];
        private int size = 0;

        void clear() {
            size = 0;
        }

        /** Rows come by vehicles and rules rising, so that of equal shares the later is behind. */
        void insert(int vehicle, int rule, int upper, int lower) {
            int slot = vehicle * MOST_RULES + rule;
            int place = placeOf(upper, lower);
            uppers[slot] = upper;
            lowers[slot] = lower;
            System.arraycopy(slots, place, slots, place + 1, size - place);
            slots[place] = slot;
            size++;
        }

        private int placeOf(int upper, int lower) {
            int place = 0;
            for (int jump = WIDEST_JUMP; jump > 0; jump /= 2) {
                if (place + jump <= size && !isBefore(upper, lower, slots[place + jump - 1])) {
                    place += jump;
                }
            }
            return place;
        }

        private boolean isBefore(int upper, int lower, int slot) {
            return isBelow(upper, lower, uppers[slot], lowers[slot]);
        }

        int rowAt(int i) {
            if (i >= size) {
                return NONE;
            }
            return 100 * (slots[i] / MOST_RULES) + slots[i] % MOST_RULES;
        }
    }
}
