import java.util.List;
import java.util.Map;
import java.util.Random;
import java.util.TreeMap;

/** Long runs of calls, with fixed seeds, against a second and plainer writing of the document. */
public final class ServiceRowsAgainstModel {
    private static final int RUNS = 3000;
    private static final int CALLS = 512;
    private static final String[] NAMES = {
        "vehicle", "rule", "small", "day", "read", "left", "due", "defect", "test", "certificate",
        "order", "work", "part", "warranty", "budget", "done", "barred", "spare", "oil", "oilPer",
        "defectAt", "count",
    };

    /** Makes arguments that are mostly taken, sometimes at an edge, now and then absurd. */
    private static final class Maker {
        final Random random;
        final Model model;
        final int cars;
        final boolean large;

        Maker(Random random, Model model) {
            this.random = random;
            this.model = model;
            this.cars = random.nextInt(5) == 0 ? 30 : 1 + random.nextInt(5);
            this.large = random.nextInt(3) == 0;
        }

        int below(int n) {
            return n <= 0 ? 0 : random.nextInt(n);
        }

        int of(int low, int high) {
            switch (random.nextInt(30)) {
                case 0: return low - 1;
                case 1: return high + 1;
                case 2: return low;
                case 3: return high;
                case 4: return new int[] {Integer.MIN_VALUE, Integer.MAX_VALUE, -1, 0}[below(4)];
                default: return low + below(high - low + 1);
            }
        }

        int some(int usual, int last) {
            if (random.nextInt(40) == 0) {
                return of(0, last);
            }
            return below((large ? last : usual) + 1);
        }

        int car() {
            return of(0, model.cars.size() - 1);
        }

        /** The younger ones are mostly those that are still open. */
        int young(List<?> list) {
            int n = list.size();
            return random.nextInt(3) == 0 ? of(0, n - 1) : n - 1 - below(Math.min(n, 6));
        }

        int rising(int from, int last) {
            int step = below(large ? 30000 : 12);
            return random.nextInt(12) == 0 ? of(0, last)
                    : from + step - (random.nextInt(9) == 0 ? 6 : 0);
        }

        int soon() {
            return random.nextInt(6) == 0 ? of(-1, 99999) : model.day - 2 + below(8);
        }

        int nextDay() {
            return random.nextInt(15) == 0 ? model.day + below(4) - 2
                    : random.nextInt(300) == 0 ? of(0, 99999) : model.day + below(3);
        }

        Call call(int nth) {
            int k = nth < cars ? 0 : below(NAMES.length);
            boolean tooEarly = nth >= cars && k == 0 && random.nextInt(4) != 0;
            String name = tooEarly ? "read" : NAMES[k];
            return new Call(name, arguments(name));
        }

        int[] arguments(String name) {
            int v = car();
            switch (name) {
                case "vehicle": return new int[] {of(0, 9), below(2)};
                case "rule": return new int[] {below(2) * some(60, 100000),
                    below(2) * some(60, 100000), below(2) * some(40, 100000)};
                case "small": return new int[] {random.nextInt(3) == 0 ? of(1, 100) : 2 + below(3)};
                case "day": return new int[] {nextDay()};
                case "read": {
                    int[] now = Model.no(v, model.cars) ? new int[2] : model.cars.get(v).now;
                    return new int[] {v, rising(now[0], 1000000), rising(now[1], 1000000)};
                }
                case "left": return new int[] {v, of(0, model.rules.size() - 1), of(0, 2)};
                case "due": return new int[] {random.nextInt(20) == 0 ? of(0, 400)
                    : below(model.cars.size() * model.rules.size() + 1)};
                case "defect": return new int[] {v, random.nextInt(4) == 0 ? 1 : 0};
                case "test": return new int[] {v, below(9), below(5),
                    random.nextInt(6) == 0 ? 2 : 8};
                case "certificate": return new int[] {v, of(0, 4),
                    random.nextInt(3) == 0 ? -1 : soon()};
                case "work": {
                    int rule = below(2);
                    return new int[] {young(model.jobs), rule,
                        rule > 0 ? of(0, model.rules.size() - 1) : young(model.faults)};
                }
                case "part": return new int[] {young(model.jobs), random.nextInt(9) == 0
                    ? of(0, 99) : below(4), of(1, 100), large ? of(0, 1000000) : below(50)};
                case "warranty": return new int[] {v,
                    random.nextInt(9) == 0 ? of(0, 99) : below(4), soon()};
                case "budget": return new int[] {some(9000, 100000000)};
                case "done": return new int[] {young(model.jobs)};
                case "oil": return new int[] {v, some(900, 100000)};
                case "oilPer": return new int[] {v, of(0, 1)};
                case "defectAt": return new int[] {young(model.faults), of(0, 2)};
                case "count": return new int[] {of(0, 4)};
                default: return new int[] {v};
            }
        }
    }

    public static void main(String[] args) {
        int wrong = 0;
        Map<String, Integer> seen = new TreeMap<>();
        for (int run = 0; run < RUNS && wrong < 20; run++) {
            ServiceRows x = new ServiceRows();
            Model model = new Model();
            Maker maker = new Maker(new Random(run), model);
            for (int nth = 0; nth < CALLS; nth++) {
                Call call = maker.call(nth);
                String want = call.on(model);
                String got = call.on(x);
                seen.merge(call.name() + " " + (want.matches("-?[0-9]+") ? "answers" : want), 1,
                        Integer::sum);
                if (!got.equals(want)) {
                    wrong++;
                    System.out.println("run " + run + ", call " + nth + ": " + call
                            + " answered " + got + ", due is " + want);
                    break;
                }
            }
        }
        if (args.length > 0) {
            System.out.println(seen);
        }
        System.out.println(RUNS + " runs of " + CALLS + " calls, " + wrong + " went wrong");
        if (wrong != 0) {
            System.exit(1);
        }
    }
}
