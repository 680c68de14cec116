import java.math.BigInteger;
import java.util.ArrayList;
import java.util.Comparator;
import java.util.HashMap;
import java.util.LinkedHashSet;
import java.util.List;
import java.util.Map;
import java.util.Random;
import java.util.Set;

/** Long runs of calls, with fixed seeds, against a second and plainer writing of the document. */
public final class ServiceRowsAgainstModel {
    private static final int RUNS = 3000;
    private static final int CALLS = 512;
    private static final String[] NAMES = {
        "vehicle", "rule", "small", "day", "read", "left", "due", "defect", "test", "certificate",
        "order", "work", "part", "warranty", "budget", "done", "barred", "spare", "oil", "oilPer",
        "defectAt", "count",
    };

    private static long answer(ServiceRows x, int call, int[] a) {
        switch (NAMES[call]) {
            case "vehicle": return x.vehicle(a[0], a[1] > 0);
            case "rule": return x.rule(a[0], a[1], a[2]);
            case "small": x.small(a[0]); return 0;
            case "day": x.day(a[0]); return 0;
            case "read": x.read(a[0], a[1], a[2]); return 0;
            case "left": return x.left(a[0], a[1], a[2]);
            case "due": return x.due(a[0]);
            case "defect": return x.defect(a[0], a[1] > 0);
            case "test": return x.test(a[0], a[1], a[2], a[3]) ? 1 : 0;
            case "certificate": x.certificate(a[0], a[1], a[2]); return 0;
            case "order": return x.order(a[0]);
            case "work": return x.work(a[0], a[1] > 0, a[2]);
            case "part": return x.part(a[0], a[1], a[2], a[3]);
            case "warranty": x.warranty(a[0], a[1], a[2]); return 0;
            case "budget": return x.budget(a[0]);
            case "done": return x.done(a[0]);
            case "barred": return x.barred(a[0]);
            case "spare": return x.spare(a[0]);
            case "oil": return x.oil(a[0], a[1]);
            case "oilPer": return x.oilPer(a[0], a[1]);
            case "defectAt": return x.defectAt(a[0], a[1]);
            default: return x.count(a[0]);
        }
    }

    /** A refusal of the model, with the simple name of the exception that is due. */
    private static final class Refused extends Exception {
        private static final long serialVersionUID = 1;
        final String name;

        Refused(String name) {
            this.name = name;
        }
    }

    private record Share(BigInteger upper, BigInteger lower) implements Comparable<Share> {
        @Override
        public int compareTo(Share o) {
            return upper.multiply(o.lower).compareTo(o.upper.multiply(lower));
        }
    }

    private record Row(Share share, int vehicle, int rule) { }

    private static final class Car {
        int station;
        boolean spare;
        int cameOn;
        int[] now = new int[2];
        int[] ends = {-1, -1, -1, -1, -1};
        Map<Integer, Integer> warranties = new HashMap<>();
        Map<Integer, int[]> services = new HashMap<>();
        long oil;
    }

    private static final class Fault {
        int car;
        boolean severe;
        String state = "open";
    }

    private static final class Job {
        int car;
        boolean done;
        Set<Integer> rules = new LinkedHashSet<>();
        Set<Integer> faults = new LinkedHashSet<>();
        List<Integer> costs = new ArrayList<>();
    }

    private static final class Model {
        List<Car> cars = new ArrayList<>();
        List<int[]> rules = new ArrayList<>();
        List<Fault> faults = new ArrayList<>();
        List<Job> jobs = new ArrayList<>();
        int parts;
        int day;
        long budget;
        int small = 5;
        int lower;

        void unknown(boolean bad) throws Refused {
            if (bad) {
                throw new Refused("IllegalArgumentException");
            }
        }

        void range(boolean bad) throws Refused {
            if (bad) {
                throw new Refused("IndexOutOfBoundsException");
            }
        }

        void state(boolean bad) throws Refused {
            if (bad) {
                throw new Refused("IllegalStateException");
            }
        }

        void room(boolean bad) throws Refused {
            if (bad) {
                throw new Refused("UnsupportedOperationException");
            }
        }

        boolean no(int k, List<?> list) {
            return k < 0 || k >= list.size();
        }

        boolean out(int k, int low, int high) {
            return k < low || k > high;
        }

        int left(int v, int r, int what) {
            Car car = cars.get(v);
            int[] since = car.services.getOrDefault(r, new int[] {0, 0, car.cameOn});
            int now = what == 2 ? day : car.now[what];
            return rules.get(r)[what] - (now - since[what]);
        }

        Share share(int v, int r) {
            Share least = null;
            for (int what = 0; what < 3; what++) {
                if (rules.get(r)[what] != 0) {
                    Share s = new Share(BigInteger.valueOf(left(v, r, what)),
                            BigInteger.valueOf(rules.get(r)[what]));
                    least = least == null || s.compareTo(least) < 0 ? s : least;
                }
            }
            return least;
        }

        int due(int i) {
            List<Row> rows = new ArrayList<>();
            for (int v = 0; v < cars.size(); v++) {
                for (int r = 0; r < rules.size(); r++) {
                    if (share(v, r).upper.signum() <= 0) {
                        rows.add(new Row(share(v, r), v, r));
                    }
                }
            }
            rows.sort(Comparator.comparing(Row::share).thenComparing(Row::vehicle)
                    .thenComparing(Row::rule));
            return i < rows.size() ? 100 * rows.get(i).vehicle + rows.get(i).rule : -1;
        }

        int openJob(int v) {
            for (int o = 0; o < jobs.size(); o++) {
                if (jobs.get(o).car == v && !jobs.get(o).done) {
                    return o;
                }
            }
            return -1;
        }

        int barred(int v) {
            if (faults.stream().anyMatch(f -> f.car == v && f.severe && !f.state.equals("gone"))) {
                return 1;
            }
            if (faults.stream().filter(f -> f.car == v && !f.severe && f.state.equals("open"))
                    .count() >= small) {
                return 2;
            }
            for (int end : cars.get(v).ends) {
                if (end != -1 && day >= end) {
                    return 3;
                }
            }
            if (openJob(v) >= 0) {
                return 4;
            }
            Share tenth = new Share(BigInteger.ONE.negate(), BigInteger.TEN);
            for (int r = 0; r < rules.size(); r++) {
                if (share(v, r).compareTo(tenth) <= 0) {
                    return 5;
                }
            }
            return 0;
        }

        int spare(int v) {
            int station = cars.get(v).station;
            for (int away = 0; away < 10; away++) {
                for (int s : new int[] {station - away, station + away}) {
                    for (int w = 0; w < cars.size(); w++) {
                        if (w != v && cars.get(w).spare && cars.get(w).station == s
                                && barred(w) == 0) {
                            return w;
                        }
                    }
                }
            }
            return -1;
        }

        void finish(Job job) {
            Car car = cars.get(job.car);
            for (int r : job.rules) {
                car.services.put(r, new int[] {car.now[0], car.now[1], day});
            }
            for (int f : job.faults) {
                Fault fault = faults.get(f);
                fault.state = fault.severe ? "repaired" : "gone";
            }
            job.done = true;
        }

        long things(String name, int[] a) throws Refused {
            switch (name) {
                case "vehicle": {
                    range(out(a[0], 0, 9));
                    room(cars.size() == 30);
                    Car car = new Car();
                    car.station = a[0];
                    car.spare = a[1] > 0;
                    car.cameOn = day;
                    cars.add(car);
                    return cars.size() - 1;
                }
                case "rule":
                    range(out(a[0], 0, 100000) || out(a[1], 0, 100000) || out(a[2], 0, 100000));
                    range(a[0] == 0 && a[1] == 0 && a[2] == 0);
                    room(rules.size() == 10);
                    rules.add(new int[] {a[0], a[1], a[2]});
                    return rules.size() - 1;
                case "small":
                    range(out(a[0], 1, 100));
                    small = a[0];
                    return 0;
                case "day":
                    range(out(a[0], day, 99999));
                    day = a[0];
                    return 0;
                case "budget":
                    range(out(a[0], 0, 100000000));
                    room(budget + a[0] > 1000000000);
                    budget += a[0];
                    return budget;
                case "due":
                    range(a[0] < 0);
                    return due(a[0]);
                default: {
                    unknown(out(a[0], 0, 4));
                    long barred = 0;
                    for (int v = 0; v < cars.size(); v++) {
                        barred += barred(v) > 0 ? 1 : 0;
                    }
                    long open = jobs.stream().filter(j -> !j.done).count();
                    return new long[] {day, budget, open, lower, barred}[a[0]];
                }
            }
        }

        long ofCar(String name, int[] a) throws Refused {
            unknown(no(a[0], cars));
            Car car = cars.get(a[0]);
            switch (name) {
                case "read":
                    range(out(a[1], 0, 1000000) || out(a[2], 0, 1000000));
                    if (a[1] < car.now[0] || a[2] < car.now[1]) {
                        lower++;
                        state(true);
                    }
                    car.now = new int[] {a[1], a[2]};
                    return 0;
                case "left":
                    unknown(no(a[1], rules) || out(a[2], 0, 2));
                    state(rules.get(a[1])[a[2]] == 0);
                    return left(a[0], a[1], a[2]);
                case "defect": {
                    room(faults.size() == 100);
                    Fault fault = new Fault();
                    fault.car = a[0];
                    fault.severe = a[1] > 0;
                    faults.add(fault);
                    return faults.size() - 1;
                }
                case "test":
                    range(a[2] > a[3]);
                    if (a[1] < a[2] || a[1] > a[3]) {
                        return 0;
                    }
                    faults.stream().filter(f -> f.car == a[0] && f.state.equals("repaired"))
                            .forEach(f -> f.state = "gone");
                    return 1;
                case "certificate":
                    unknown(out(a[1], 0, 4));
                    range(out(a[2], -1, 99999));
                    car.ends[a[1]] = a[2];
                    return 0;
                case "order": {
                    if (openJob(a[0]) >= 0) {
                        return openJob(a[0]);
                    }
                    room(jobs.size() == 60);
                    Job job = new Job();
                    job.car = a[0];
                    jobs.add(job);
                    return jobs.size() - 1;
                }
                case "warranty":
                    unknown(out(a[1], 0, 99));
                    range(out(a[2], 0, 99999));
                    car.warranties.put(a[1], a[2]);
                    return 0;
                case "barred": return barred(a[0]);
                case "spare": return spare(a[0]);
                case "oil":
                    range(out(a[1], 0, 100000));
                    room(car.oil + a[1] > 1000000000);
                    car.oil += a[1];
                    return car.oil;
                default: {
                    unknown(out(a[1], 0, 1));
                    if (car.now[0] == 0) {
                        throw new Refused("ArithmeticException");
                    }
                    BigInteger upper = BigInteger.valueOf(100 * car.oil);
                    BigInteger lower = BigInteger.valueOf(car.now[0]);
                    BigInteger g = upper.gcd(lower);
                    return (a[1] == 0 ? upper : lower).divide(g).longValueExact();
                }
            }
        }

        long ofJob(String name, int[] a) throws Refused {
            unknown(no(a[0], jobs));
            Job job = jobs.get(a[0]);
            switch (name) {
                case "work":
                    unknown(no(a[2], a[1] > 0 ? rules : faults));
                    state(job.done);
                    if (a[1] > 0) {
                        state(!job.rules.add(a[2]));
                    } else {
                        Fault fault = faults.get(a[2]);
                        state(fault.car != job.car || !fault.state.equals("open"));
                        state(!job.faults.add(a[2]));
                    }
                    return job.rules.size() + job.faults.size();
                case "part": {
                    unknown(out(a[1], 0, 99));
                    range(out(a[2], 1, 100) || out(a[3], 0, 1000000));
                    state(job.done);
                    int until = cars.get(job.car).warranties.getOrDefault(a[1], 0);
                    int cost = day < until ? 0 : a[2] * a[3];
                    state(cost > budget);
                    room(parts == 100);
                    parts++;
                    budget -= cost;
                    job.costs.add(cost);
                    return cost;
                }
                default:
                    state(job.done);
                    finish(job);
                    return job.costs.stream().mapToInt(c -> c).sum();
            }
        }

        long answer(String name, int[] a) throws Refused {
            switch (name) {
                case "vehicle": case "rule": case "small": case "day": case "budget": case "due":
                case "count":
                    return things(name, a);
                case "work": case "part": case "done":
                    return ofJob(name, a);
                case "defectAt": {
                    unknown(no(a[0], faults) || out(a[1], 0, 2));
                    Fault f = faults.get(a[0]);
                    int state = List.of("open", "repaired", "gone").indexOf(f.state);
                    return new int[] {state, f.car, f.severe ? 1 : 0}[a[1]];
                }
                default:
                    return ofCar(name, a);
            }
        }
    }

    /** Makes arguments that are mostly taken, sometimes at an edge, now and then absurd. */
    private static final class Maker {
        final Random random;
        final Model model;
        final int cars;
        final boolean large;

        Maker(Random random, Model model) {
            this.random = random;
            this.model = model;
            this.cars = random.nextInt(5) == 0 ? 30 : 1 + random.nextInt(5);
            this.large = random.nextInt(3) == 0;
        }

        int below(int n) {
            return n <= 0 ? 0 : random.nextInt(n);
        }

        int of(int low, int high) {
            switch (random.nextInt(30)) {
                case 0: return low - 1;
                case 1: return high + 1;
                case 2: return low;
                case 3: return high;
                case 4: return new int[] {Integer.MIN_VALUE, Integer.MAX_VALUE, -1, 0}[below(4)];
                default: return low + below(high - low + 1);
            }
        }

        int some(int usual, int last) {
            if (random.nextInt(40) == 0) {
                return of(0, last);
            }
            return below((large ? last : usual) + 1);
        }

        int car() {
            return of(0, model.cars.size() - 1);
        }

        /** The younger ones are mostly those that are still open. */
        int young(List<?> list) {
            int n = list.size();
            return random.nextInt(3) == 0 ? of(0, n - 1) : n - 1 - below(Math.min(n, 6));
        }

        int rising(int from, int last) {
            int step = below(large ? 30000 : 12);
            return random.nextInt(12) == 0 ? of(0, last) : from + step - (random.nextInt(9) == 0 ? 6 : 0);
        }

        int soon() {
            return random.nextInt(6) == 0 ? of(-1, 99999) : model.day - 2 + below(8);
        }

        int nextDay() {
            return random.nextInt(15) == 0 ? model.day + below(4) - 2
                    : random.nextInt(300) == 0 ? of(0, 99999) : model.day + below(3);
        }

        int call(int nth) {
            if (nth < cars) {
                return 0;
            }
            int call = below(NAMES.length);
            return call == 0 && random.nextInt(4) != 0 ? 4 : call;
        }

        int[] arguments(String name) {
            int v = car();
            switch (name) {
                case "vehicle": return new int[] {of(0, 9), below(2)};
                case "rule": return new int[] {below(2) * some(60, 100000),
                    below(2) * some(60, 100000), below(2) * some(40, 100000)};
                case "small": return new int[] {random.nextInt(3) == 0 ? of(1, 100) : 2 + below(3)};
                case "day": return new int[] {nextDay()};
                case "read": {
                    int[] now = model.no(v, model.cars) ? new int[2] : model.cars.get(v).now;
                    return new int[] {v, rising(now[0], 1000000), rising(now[1], 1000000)};
                }
                case "left": return new int[] {v, of(0, model.rules.size() - 1), of(0, 2)};
                case "due": return new int[] {random.nextInt(20) == 0 ? of(0, 400)
                    : below(model.cars.size() * model.rules.size() + 1)};
                case "defect": return new int[] {v, random.nextInt(4) == 0 ? 1 : 0};
                case "test": return new int[] {v, below(9), below(5), random.nextInt(6) == 0 ? 2 : 8};
                case "certificate": return new int[] {v, of(0, 4),
                    random.nextInt(3) == 0 ? -1 : soon()};
                case "work": {
                    int rule = below(2);
                    return new int[] {young(model.jobs), rule,
                        rule > 0 ? of(0, model.rules.size() - 1) : young(model.faults)};
                }
                case "part": return new int[] {young(model.jobs), random.nextInt(9) == 0
                    ? of(0, 99) : below(4), of(1, 100), large ? of(0, 1000000) : below(50)};
                case "warranty": return new int[] {v,
                    random.nextInt(9) == 0 ? of(0, 99) : below(4), soon()};
                case "budget": return new int[] {some(9000, 100000000)};
                case "done": return new int[] {young(model.jobs)};
                case "oil": return new int[] {v, some(900, 100000)};
                case "oilPer": return new int[] {v, of(0, 1)};
                case "defectAt": return new int[] {young(model.faults), of(0, 2)};
                case "count": return new int[] {of(0, 4)};
                default: return new int[] {v};
            }
        }
    }

    private static String told(ServiceRows x, int call, int[] a) {
        try {
            return Long.toString(answer(x, call, a));
        } catch (RuntimeException e) {
            return e.getClass().getSimpleName();
        }
    }

    private static String due(Model model, int call, int[] a) {
        try {
            return Long.toString(model.answer(NAMES[call], a));
        } catch (Refused e) {
            return e.name;
        }
    }

    public static void main(String[] args) {
        int wrong = 0;
        Map<String, Integer> seen = new java.util.TreeMap<>();
        for (int run = 0; run < RUNS && wrong < 20; run++) {
            ServiceRows x = new ServiceRows();
            Model model = new Model();
            Maker maker = new Maker(new Random(run), model);
            for (int nth = 0; nth < CALLS; nth++) {
                int call = maker.call(nth);
                int[] a = maker.arguments(NAMES[call]);
                String want = due(model, call, a);
                String got = told(x, call, a);
                seen.merge(NAMES[call] + " " + (want.matches("-?[0-9]+") ? "answers" : want), 1,
                        Integer::sum);
                if (!got.equals(want)) {
                    wrong++;
                    System.out.println("run " + run + ", call " + nth + ": " + NAMES[call]
                            + java.util.Arrays.toString(a) + " answered " + got + ", due is " + want);
                    break;
                }
            }
        }
        if (args.length > 0) {
            System.out.println(seen);
        }
        System.out.println(RUNS + " runs of " + CALLS + " calls, " + wrong + " went wrong");
        if (wrong != 0) {
            System.exit(1);
        }
    }
}
