import java.math.BigInteger;
import java.util.ArrayList;
import java.util.Comparator;
import java.util.HashMap;
import java.util.LinkedHashSet;
import java.util.List;
import java.util.Map;
import java.util.Set;

/** A second and plainer writing of the document, to which the class is held. */
final class Model {
    /** A refusal, in the one word that Call has for it. */
    static final class Refused extends Exception {
        private static final long serialVersionUID = 1;
        final String word;

        Refused(String word) {
            this.word = word;
        }
    }

    private record Share(BigInteger upper, BigInteger lower) implements Comparable<Share> {
        @Override
        public int compareTo(Share o) {
            return upper.multiply(o.lower).compareTo(o.upper.multiply(lower));
        }
    }

    private record Row(Share share, int vehicle, int rule) { }

    static final class Car {
        int station;
        boolean spare;
        int cameOn;
        int[] now = new int[2];
        int[] ends = {-1, -1, -1, -1, -1};
        Map<Integer, Integer> warranties = new HashMap<>();
        Map<Integer, int[]> services = new HashMap<>();
        long oil;
    }

    static final class Fault {
        int car;
        boolean severe;
        String state = "open";
    }

    static final class Job {
        int car;
        boolean done;
        Set<Integer> rules = new LinkedHashSet<>();
        Set<Integer> faults = new LinkedHashSet<>();
        List<Integer> costs = new ArrayList<>();
    }

    final List<Car> cars = new ArrayList<>();
    final List<int[]> rules = new ArrayList<>();
    final List<Fault> faults = new ArrayList<>();
    final List<Job> jobs = new ArrayList<>();
    int parts;
    int day;
    long budget;
    int small = 5;
    int lower;

    private static void refuseIf(boolean bad, String word) throws Refused {
        if (bad) {
            throw new Refused(word);
        }
    }

    private static void unknown(boolean bad) throws Refused {
        refuseIf(bad, "unknown");
    }

    private static void range(boolean bad) throws Refused {
        refuseIf(bad, "range");
    }

    private static void state(boolean bad) throws Refused {
        refuseIf(bad, "state");
    }

    private static void room(boolean bad) throws Refused {
        refuseIf(bad, "room");
    }

    static boolean no(int k, List<?> list) {
        return k < 0 || k >= list.size();
    }

    private static boolean out(int k, int low, int high) {
        return k < low || k > high;
    }

    private int left(int v, int r, int what) {
        Car car = cars.get(v);
        int[] since = car.services.getOrDefault(r, new int[] {0, 0, car.cameOn});
        int now = what == 2 ? day : car.now[what];
        return rules.get(r)[what] - (now - since[what]);
    }

    private Share share(int v, int r) {
        Share least = null;
        for (int what = 0; what < 3; what++) {
            if (rules.get(r)[what] != 0) {
                Share s = new Share(BigInteger.valueOf(left(v, r, what)),
                        BigInteger.valueOf(rules.get(r)[what]));
                least = least == null || s.compareTo(least) < 0 ? s : least;
            }
        }
        return least;
    }

    private int due(int i) {
        List<Row> rows = new ArrayList<>();
        for (int v = 0; v < cars.size(); v++) {
            for (int r = 0; r < rules.size(); r++) {
                Share share = share(v, r);
                if (share.upper.signum() <= 0) {
                    rows.add(new Row(share, v, r));
                }
            }
        }
        rows.sort(Comparator.comparing(Row::share).thenComparing(Row::vehicle)
                .thenComparing(Row::rule));
        return i < rows.size() ? 100 * rows.get(i).vehicle + rows.get(i).rule : -1;
    }

    private int openJob(int v) {
        for (int o = 0; o < jobs.size(); o++) {
            if (jobs.get(o).car == v && !jobs.get(o).done) {
                return o;
            }
        }
        return -1;
    }

    private int barred(int v) {
        if (faults.stream().anyMatch(f -> f.car == v && f.severe && !f.state.equals("gone"))) {
            return 1;
        }
        if (faults.stream().filter(f -> f.car == v && !f.severe && f.state.equals("open"))
                .count() >= small) {
            return 2;
        }
        for (int end : cars.get(v).ends) {
            if (end != -1 && day >= end) {
                return 3;
            }
        }
        if (openJob(v) >= 0) {
            return 4;
        }
        Share tenth = new Share(BigInteger.ONE.negate(), BigInteger.TEN);
        for (int r = 0; r < rules.size(); r++) {
            if (share(v, r).compareTo(tenth) <= 0) {
                return 5;
            }
        }
        return 0;
    }

    private int spare(int v) {
        int station = cars.get(v).station;
        for (int away = 0; away < 10; away++) {
            for (int s : new int[] {station - away, station + away}) {
                for (int w = 0; w < cars.size(); w++) {
                    if (w != v && cars.get(w).spare && cars.get(w).station == s
                            && barred(w) == 0) {
                        return w;
                    }
                }
            }
        }
        return -1;
    }

    private void finish(Job job) {
        Car car = cars.get(job.car);
        for (int r : job.rules) {
            car.services.put(r, new int[] {car.now[0], car.now[1], day});
        }
        for (int f : job.faults) {
            Fault fault = faults.get(f);
            fault.state = fault.severe ? "repaired" : "gone";
        }
        job.done = true;
    }

    private long count(int what) throws Refused {
        unknown(out(what, 0, 4));
        long barred = 0;
        for (int v = 0; v < cars.size(); v++) {
            barred += barred(v) > 0 ? 1 : 0;
        }
        long open = jobs.stream().filter(j -> !j.done).count();
        return new long[] {day, budget, open, lower, barred}[what];
    }

    private int newCar(int station, boolean spare) throws Refused {
        range(out(station, 0, 9));
        room(cars.size() == 30);
        Car car = new Car();
        car.station = station;
        car.spare = spare;
        car.cameOn = day;
        cars.add(car);
        return cars.size() - 1;
    }

    private int newFault(int v, boolean severe) throws Refused {
        room(faults.size() == 100);
        Fault fault = new Fault();
        fault.car = v;
        fault.severe = severe;
        faults.add(fault);
        return faults.size() - 1;
    }

    private int newJob(int v) throws Refused {
        if (openJob(v) >= 0) {
            return openJob(v);
        }
        room(jobs.size() == 60);
        Job job = new Job();
        job.car = v;
        jobs.add(job);
        return jobs.size() - 1;
    }

    private static String ok() {
        return "ok";
    }

    private Object ofAll(String name, int[] a) throws Refused {
        switch (name) {
            case "vehicle": return newCar(a[0], a[1] > 0);
            case "rule":
                range(out(a[0], 0, 100000) || out(a[1], 0, 100000) || out(a[2], 0, 100000));
                range(a[0] == 0 && a[1] == 0 && a[2] == 0);
                room(rules.size() == 10);
                rules.add(new int[] {a[0], a[1], a[2]});
                return rules.size() - 1;
            case "small":
                range(out(a[0], 1, 100));
                small = a[0];
                return ok();
            case "day":
                range(out(a[0], day, 99999));
                day = a[0];
                return ok();
            case "budget":
                range(out(a[0], 0, 100000000));
                room(budget + a[0] > 1000000000);
                budget += a[0];
                return budget;
            case "due":
                range(a[0] < 0);
                return due(a[0]);
            default: return count(a[0]);
        }
    }

    private Object ofCar(String name, int[] a) throws Refused {
        unknown(no(a[0], cars));
        Car car = cars.get(a[0]);
        switch (name) {
            case "read":
                range(out(a[1], 0, 1000000) || out(a[2], 0, 1000000));
                if (a[1] < car.now[0] || a[2] < car.now[1]) {
                    lower++;
                    state(true);
                }
                car.now = new int[] {a[1], a[2]};
                return ok();
            case "left":
                unknown(no(a[1], rules) || out(a[2], 0, 2));
                state(rules.get(a[1])[a[2]] == 0);
                return left(a[0], a[1], a[2]);
            case "defect": return newFault(a[0], a[1] > 0);
            case "test":
                range(a[2] > a[3]);
                if (a[1] < a[2] || a[1] > a[3]) {
                    return 0;
                }
                faults.stream().filter(f -> f.car == a[0] && f.state.equals("repaired"))
                        .forEach(f -> f.state = "gone");
                return 1;
            case "certificate":
                unknown(out(a[1], 0, 4));
                range(out(a[2], -1, 99999));
                car.ends[a[1]] = a[2];
                return ok();
            case "order": return newJob(a[0]);
            case "warranty":
                unknown(out(a[1], 0, 99));
                range(out(a[2], 0, 99999));
                car.warranties.put(a[1], a[2]);
                return ok();
            case "barred": return barred(a[0]);
            case "spare": return spare(a[0]);
            case "oil":
                range(out(a[1], 0, 100000));
                room(car.oil + a[1] > 1000000000);
                car.oil += a[1];
                return car.oil;
            default: return oilPer(car, a[1]);
        }
    }

    private BigInteger oilPer(Car car, int what) throws Refused {
        unknown(out(what, 0, 1));
        refuseIf(car.now[0] == 0, "arithmetic");
        BigInteger upper = BigInteger.valueOf(100 * car.oil);
        BigInteger lower = BigInteger.valueOf(car.now[0]);
        return (what == 0 ? upper : lower).divide(upper.gcd(lower));
    }

    private Object ofJob(String name, int[] a) throws Refused {
        unknown(no(a[0], jobs));
        Job job = jobs.get(a[0]);
        switch (name) {
            case "work":
                unknown(no(a[2], a[1] > 0 ? rules : faults));
                state(job.done);
                if (a[1] > 0) {
                    state(!job.rules.add(a[2]));
                } else {
                    Fault fault = faults.get(a[2]);
                    state(fault.car != job.car || !fault.state.equals("open"));
                    state(!job.faults.add(a[2]));
                }
                return job.rules.size() + job.faults.size();
            case "part": {
                unknown(out(a[1], 0, 99));
                range(out(a[2], 1, 100) || out(a[3], 0, 1000000));
                state(job.done);
                int until = cars.get(job.car).warranties.getOrDefault(a[1], 0);
                int cost = day < until ? 0 : a[2] * a[3];
                state(cost > budget);
                room(parts == 100);
                parts++;
                budget -= cost;
                job.costs.add(cost);
                return cost;
            }
            default:
                state(job.done);
                finish(job);
                return job.costs.stream().mapToInt(c -> c).sum();
        }
    }

    private int ofFault(int defect, int what) throws Refused {
        unknown(no(defect, faults) || out(what, 0, 2));
        Fault fault = faults.get(defect);
        int state = List.of("open", "repaired", "gone").indexOf(fault.state);
        return new int[] {state, fault.car, fault.severe ? 1 : 0}[what];
    }

    /** The answer as Call writes it. */
    String answer(String name, int[] a) throws Refused {
        switch (name) {
            case "vehicle": case "rule": case "small": case "day": case "budget": case "due":
            case "count":
                return ofAll(name, a).toString();
            case "work": case "part": case "done":
                return ofJob(name, a).toString();
            case "defectAt":
                return Integer.toString(ofFault(a[0], a[1]));
            default:
                return ofCar(name, a).toString();
        }
    }
}
