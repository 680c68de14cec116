import java.util.Arrays;

/**
 * One call of the face: its name and its numbers, a boolean being 1 or 0. Its answer is a text: a
 * number (a boolean is 1 or 0), "ok" where nothing is answered, or the refusal in one word.
 */
record Call(String name, int... numbers) {
    /** Reads a call as it is written in Java: work(0, true, 3). */
    static Call of(String text) {
        int open = text.indexOf('(');
        String inside = text.substring(open + 1, text.indexOf(')'));
        int[] numbers = Arrays.stream(inside.split(", "))
                .mapToInt(word -> word.equals("true") ? 1 : word.equals("false") ? 0
                        : word.equals("MIN") ? Integer.MIN_VALUE
                        : word.equals("MAX") ? Integer.MAX_VALUE : Integer.parseInt(word))
                .toArray();
        return new Call(text.substring(0, open), numbers);
    }

    String on(ServiceRows x) {
        try {
            return answered(x, numbers);
        } catch (RuntimeException e) {
            return word(e);
        }
    }

    String on(Model model) {
        try {
            return model.answer(name, numbers);
        } catch (Model.Refused e) {
            return e.word;
        }
    }

    @Override
    public String toString() {
        return name + Arrays.toString(numbers);
    }

    /** The class must be the very one: the machine's own exceptions are below the document's. */
    private static String word(RuntimeException e) {
        Class<?> type = e.getClass();
        return type == IllegalArgumentException.class ? "unknown"
                : type == IndexOutOfBoundsException.class ? "range"
                : type == IllegalStateException.class ? "state"
                : type == UnsupportedOperationException.class ? "room"
                : type == ArithmeticException.class && !"/ by zero".equals(e.getMessage())
                        ? "arithmetic" : e.toString();
    }

    private String answered(ServiceRows x, int[] a) {
        switch (name) {
            case "small": x.small(a[0]); return "ok";
            case "day": x.day(a[0]); return "ok";
            case "read": x.read(a[0], a[1], a[2]); return "ok";
            case "certificate": x.certificate(a[0], a[1], a[2]); return "ok";
            case "warranty": x.warranty(a[0], a[1], a[2]); return "ok";
            case "test": return x.test(a[0], a[1], a[2], a[3]) ? "1" : "0";
            default: return Long.toString(number(x, a));
        }
    }

    private long number(ServiceRows x, int[] a) {
        switch (name) {
            case "vehicle": return x.vehicle(a[0], a[1] > 0);
            case "rule": return x.rule(a[0], a[1], a[2]);
            case "left": return x.left(a[0], a[1], a[2]);
            case "due": return x.due(a[0]);
            case "defect": return x.defect(a[0], a[1] > 0);
            case "order": return x.order(a[0]);
            case "work": return x.work(a[0], a[1] > 0, a[2]);
            case "part": return x.part(a[0], a[1], a[2], a[3]);
            case "budget": return x.budget(a[0]);
            case "done": return x.done(a[0]);
            case "barred": return x.barred(a[0]);
            case "spare": return x.spare(a[0]);
            case "oil": return x.oil(a[0], a[1]);
            case "oilPer": return x.oilPer(a[0], a[1]);
            case "defectAt": return x.defectAt(a[0], a[1]);
            case "count": return x.count(a[0]);
            default: throw new AssertionError("no such call: " + name);
        }
    }
}
