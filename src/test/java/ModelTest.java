import java.util.ArrayList;
import java.util.List;
import java.util.Map;
import java.util.NoSuchElementException;
import java.util.PriorityQueue;
import java.util.TreeMap;

/**
 * Long runs of calls, made up by a fixed rule, on the class and on a plain model that holds the
 * bookings by PriorityQueue and TreeMap and looks at every time by itself.
 */
public final class ModelTest {
    private static final int RUNS = 1200;
    private static final int CALLS = 512;
    private static final int TIMES = 10700;
    private static final String[] NAMES = {
        "book", "series", "callOff", "callOffAll", "put", "join", "part", "next", "run", "back",
        "clock", "waiting", "came", "waits", "cameAt", "nextTime", "about", "crowd", "change",
        "greatest", "greatestFrom", "busy", "spans", "span", "free", "load", "mean", "share",
        "isQuiet", "checksum", "isSound"
    };
    // What each method may throw: o house or booking, a argument, e element, s state, m arithmetic.
    private static final String[] THROWS = {
        "oas", "oas", "o", "oa", "oaes", "os", "os", "oe", "oas", "oas",
        "o", "o", "o", "oe", "oe", "oe", "oa", "o", "o",
        "o", "oe", "oa", "o", "oae", "oa", "o", "om", "om",
        "o", "", ""
    };

    private static final class Booking {
        int number;
        int time;
        int span;
        int weight;
        int house;
        int state;
    }

    private static final class Model {
        final List<Booking> made = new ArrayList<>();
        final List<PriorityQueue<Booking>> queues = new ArrayList<>();
        final List<List<Booking>> past = new ArrayList<>();
        final int[] clocks = new int[4];

        Model() {
            for (int i = 0; i < 4; i++) {
                queues.add(new PriorityQueue<>(Model::compare));
                past.add(new ArrayList<>());
            }
        }

        static int compare(Booking a, Booking b) {
            return a.time != b.time ? Integer.compare(a.time, b.time) : Integer.compare(a.number, b.number);
        }

        static void house(int house) {
            if (house < 0 || house > 3) {
                throw new IndexOutOfBoundsException();
            }
        }

        static void argument(boolean fine) {
            if (!fine) {
                throw new IllegalArgumentException();
            }
        }

        static void state(boolean fine) {
            if (!fine) {
                throw new IllegalStateException();
            }
        }

        static void element(boolean fine) {
            if (!fine) {
                throw new NoSuchElementException();
            }
        }

        static boolean in(long value, long least, long most) {
            return least <= value && value <= most;
        }

        List<Booking> row(int house) {
            PriorityQueue<Booking> copy = new PriorityQueue<>(queues.get(house));
            List<Booking> row = new ArrayList<>();
            while (!copy.isEmpty()) {
                row.add(copy.poll());
            }
            return row;
        }

        int[] crowds(int house) {
            int[] crowds = new int[TIMES];
            for (Booking b : past.get(house)) {
                for (int t = b.time; t < b.time + b.span; t++) {
                    crowds[t] += b.weight;
                }
            }
            return crowds;
        }

        Booking waitingOne(int house, int number) {
            for (Booking b : queues.get(house)) {
                if (b.number == number) {
                    return b;
                }
            }
            return null;
        }

        long series(int house, int time, int step, int many, int span, int weight) {
            house(house);
            argument(in(step, 0, 500) && in(many, 1, 12) && in(span, 0, 500) && in(weight, 1, 9)
                    && in(time, 0, 9999) && in(time + (long) step * (many - 1), 0, 9999));
            state(time >= clocks[house] && queues.get(house).size() + many <= 48 && made.size() + many <= 120);
            for (int i = 0; i < many; i++) {
                Booking b = new Booking();
                b.number = made.size();
                b.time = time + i * step;
                b.span = span;
                b.weight = weight;
                b.house = house;
                made.add(b);
                queues.get(house).add(b);
            }
            return made.size() - many;
        }

        long callOffAll(int house, int from, int to) {
            house(house);
            argument(from <= to);
            List<Booking> off = new ArrayList<>(queues.get(house));
            off.removeIf(b -> b.time < from || b.time >= to);
            off.forEach(b -> b.state = 2);
            queues.get(house).removeAll(off);
            return off.size();
        }

        long callOff(int house, int number) {
            house(house);
            Booking b = waitingOne(house, number);
            if (b == null) {
                return 0;
            }
            b.state = 2;
            queues.get(house).remove(b);
            return 1;
        }

        long put(int house, int number, int time) {
            house(house);
            argument(in(time, 0, 9999));
            Booking b = waitingOne(house, number);
            element(b != null);
            state(time >= clocks[house]);
            queues.get(house).remove(b);
            int before = b.time;
            b.time = time;
            queues.get(house).add(b);
            return before;
        }

        long move(int from, int to, long time) {
            state(from != to);
            List<Booking> moved = new ArrayList<>(queues.get(from));
            moved.removeIf(b -> b.time < time);
            state(moved.stream().allMatch(b -> b.time >= clocks[to]));
            state(moved.size() + queues.get(to).size() <= 48);
            queues.get(from).removeAll(moved);
            queues.get(to).addAll(moved);
            moved.forEach(b -> b.house = to);
            return moved.size();
        }

        long comes(int house) {
            Booking b = queues.get(house).poll();
            element(b != null);
            b.state = 1;
            clocks[house] = b.time;
            past.get(house).add(b);
            return b.number;
        }

        long run(int house, int time) {
            house(house);
            argument(in(time, 0, 9999));
            state(time >= clocks[house]);
            int many = 0;
            while (!queues.get(house).isEmpty() && queues.get(house).peek().time <= time) {
                comes(house);
                many++;
            }
            clocks[house] = time;
            return many;
        }

        long back(int house, int time) {
            house(house);
            argument(in(time, 0, 9999));
            state(time <= clocks[house]);
            List<Booking> again = new ArrayList<>(past.get(house));
            again.removeIf(b -> b.time <= time);
            state(again.size() + queues.get(house).size() <= 48);
            past.get(house).removeAll(again);
            queues.get(house).addAll(again);
            again.forEach(b -> b.state = 0);
            clocks[house] = time;
            return again.size();
        }

        long about(int number, char what) {
            if (!in(number, 0, made.size() - 1)) {
                throw new IndexOutOfBoundsException();
            }
            argument("tswhx".indexOf(what) >= 0);
            Booking b = made.get(number);
            return new long[] {b.time, b.span, b.weight, b.house, b.state}["tswhx".indexOf(what)];
        }

        /** The busy spans: begin, end, greatest crowd. */
        List<int[]> spans(int house) {
            int[] crowds = crowds(house);
            List<int[]> spans = new ArrayList<>();
            int[] open = null;
            for (int t = 0; t < TIMES; t++) {
                if (crowds[t] == 0) {
                    open = null;
                    continue;
                }
                if (open == null) {
                    open = new int[] {t, t, 0};
                    spans.add(open);
                }
                open[1] = t + 1;
                open[2] = Math.max(open[2], crowds[t]);
            }
            return spans;
        }

        long greatest(int house) {
            int most = 0;
            for (int c : crowds(house)) {
                most = Math.max(most, c);
            }
            return most;
        }

        long greatestFrom(int house) {
            long most = greatest(house);
            element(most > 0);
            int[] crowds = crowds(house);
            for (int t = 0; t < TIMES; t++) {
                if (crowds[t] == most) {
                    return t;
                }
            }
            return -1;
        }

        long crowd(int house, long time) {
            long sum = 0;
            for (Booking b : past.get(house)) {
                sum += b.time <= time && time < b.time + b.span ? b.weight : 0;
            }
            return sum;
        }

        long busy(int house, int from, int to) {
            argument(from <= to);
            int[] crowds = crowds(house);
            int many = 0;
            for (int t = Math.max(0, from); t < Math.min(to, TIMES); t++) {
                many += crowds[t] != 0 ? 1 : 0;
            }
            return many;
        }

        long free(int house, int from, int many) {
            argument(in(from, 0, 20000) && in(many, 1, 500));
            int[] crowds = crowds(house);
            int row = 0;
            for (int t = from;; t++) {
                row = t < TIMES && crowds[t] != 0 ? 0 : row + 1;
                if (row == many) {
                    return t - many + 1;
                }
            }
        }

        long load(int house) {
            long sum = 0;
            for (int c : crowds(house)) {
                sum += c;
            }
            return sum;
        }

        double mean(int house) {
            long times = busy(house, 0, TIMES);
            if (times == 0) {
                throw new ArithmeticException();
            }
            return (double) load(house) / (double) times;
        }

        float share(int house) {
            int came = past.get(house).size();
            int all = came + queues.get(house).size();
            if (all == 0) {
                throw new ArithmeticException();
            }
            return (float) came / (float) all;
        }

        boolean isQuiet(int house) {
            return queues.get(house).isEmpty() && busy(house, clocks[house], TIMES) == 0;
        }

        long checksum() {
            long sum = 7;
            for (int house = 0; house < 4; house++) {
                sum = 31 * sum + clocks[house];
                sum = rowSum(sum, row(house));
                sum = rowSum(sum, past.get(house));
                TreeMap<Integer, Integer> changes = new TreeMap<>();
                for (Booking b : past.get(house)) {
                    changes.merge(b.time, b.weight, Integer::sum);
                    changes.merge(b.time + b.span, -b.weight, Integer::sum);
                }
                for (Map.Entry<Integer, Integer> entry : changes.entrySet()) {
                    if (entry.getValue() != 0) {
                        sum = 31 * sum + entry.getKey();
                        sum = 31 * sum + entry.getValue();
                    }
                }
            }
            return sum;
        }

        static long rowSum(long sum, List<Booking> row) {
            sum = 31 * sum + row.size();
            for (Booking b : row) {
                sum = 31 * sum + b.number;
            }
            return sum;
        }

        static long numberAt(List<Booking> row, int place) {
            element(in(place, 0, row.size() - 1));
            return row.get(place).number;
        }

        long nextTime(int house, int time) {
            for (Booking b : row(house)) {
                if (b.time >= time) {
                    return b.time;
                }
            }
            throw new NoSuchElementException();
        }

        long span(int house, int place, char what) {
            argument("beg".indexOf(what) >= 0);
            List<int[]> spans = spans(house);
            element(in(place, 0, spans.size() - 1));
            return spans.get(place)["beg".indexOf(what)];
        }
    }

    private static Object ofModel(Model m, int method, int[] a, char what) {
        if (method >= 10 && method != 16 && method < 29) {
            Model.house(a[0]);
        }
        switch (method) {
            case 0:
                return m.series(a[0], a[1], 0, 1, a[2], a[3]);
            case 1:
                return m.series(a[0], a[1], a[4], a[5], a[2], a[3]);
            case 2:
                return m.callOff(a[0], a[6]) == 1;
            case 3:
                return m.callOffAll(a[0], a[1], a[7]);
            case 4:
                return m.put(a[0], a[6], a[1]);
            case 5:
                Model.house(a[0]);
                Model.house(a[8]);
                return m.move(a[8], a[0], Long.MIN_VALUE);
            case 6:
                Model.house(a[0]);
                Model.house(a[8]);
                return m.move(a[0], a[8], a[1]);
            case 7:
                Model.house(a[0]);
                return m.comes(a[0]);
            case 8:
                return m.run(a[0], a[1]);
            case 9:
                return m.back(a[0], a[1]);
            case 10:
                return (long) m.clocks[a[0]];
            case 11:
                return (long) m.queues.get(a[0]).size();
            case 12:
                return (long) m.past.get(a[0]).size();
            case 13:
                return Model.numberAt(m.row(a[0]), a[9]);
            case 14:
                return Model.numberAt(m.past.get(a[0]), a[9]);
            case 15:
                return m.nextTime(a[0], a[1]);
            case 16:
                return m.about(a[6], what);
            default:
                return crowdOfModel(m, method, a, what);
        }
    }

    private static Object crowdOfModel(Model m, int method, int[] a, char what) {
        switch (method) {
            case 17:
                return m.crowd(a[0], a[1]);
            case 18:
                return m.crowd(a[0], a[1]) - m.crowd(a[0], a[1] - 1L);
            case 19:
                return m.greatest(a[0]);
            case 20:
                return m.greatestFrom(a[0]);
            case 21:
                return m.busy(a[0], a[1], a[7]);
            case 22:
                return (long) m.spans(a[0]).size();
            case 23:
                return m.span(a[0], a[9], what);
            case 24:
                return m.free(a[0], a[1], a[10]);
            case 25:
                return m.load(a[0]);
            case 26:
                return m.mean(a[0]);
            case 27:
                return m.share(a[0]);
            case 28:
                return m.isQuiet(a[0]);
            case 29:
                return m.checksum();
            default:
                return true;
        }
    }

    private static Object ofClass(Bookinghouse x, int method, int[] a, char what) {
        switch (method) {
            case 0:
                return (long) x.book(a[0], a[1], a[2], a[3]);
            case 1:
                return (long) x.series(a[0], a[1], a[4], a[5], a[2], a[3]);
            case 2:
                return x.callOff(a[0], a[6]);
            case 3:
                return (long) x.callOffAll(a[0], a[1], a[7]);
            case 4:
                return (long) x.put(a[0], a[6], a[1]);
            case 5:
                return (long) x.join(a[0], a[8]);
            case 6:
                return (long) x.part(a[0], a[8], a[1]);
            case 7:
                return (long) x.next(a[0]);
            case 8:
                return (long) x.run(a[0], a[1]);
            case 9:
                return (long) x.back(a[0], a[1]);
            case 10:
                return (long) x.clock(a[0]);
            case 11:
                return (long) x.waiting(a[0]);
            case 12:
                return (long) x.came(a[0]);
            case 13:
                return (long) x.waits(a[0], a[9]);
            case 14:
                return (long) x.cameAt(a[0], a[9]);
            case 15:
                return (long) x.nextTime(a[0], a[1]);
            case 16:
                return x.about(a[6], what);
            default:
                return crowdOfClass(x, method, a, what);
        }
    }

    private static Object crowdOfClass(Bookinghouse x, int method, int[] a, char what) {
        switch (method) {
            case 17:
                return (long) x.crowd(a[0], a[1]);
            case 18:
                return (long) x.change(a[0], a[1]);
            case 19:
                return (long) x.greatest(a[0]);
            case 20:
                return (long) x.greatestFrom(a[0]);
            case 21:
                return (long) x.busy(a[0], a[1], a[7]);
            case 22:
                return (long) x.spans(a[0]);
            case 23:
                return (long) x.span(a[0], a[9], what);
            case 24:
                return (long) x.free(a[0], a[1], a[10]);
            case 25:
                return x.load(a[0]);
            case 26:
                return x.mean(a[0]);
            case 27:
                return x.share(a[0]);
            case 28:
                return x.isQuiet(a[0]);
            case 29:
                return x.checksum();
            default:
                return x.isSound();
        }
    }

    private static final class Numbers {
        private long state;

        Numbers(long seed) {
            state = seed * 0x9E3779B97F4A7C15L + 1;
        }

        int below(int bound) {
            state = state * 6364136223846793005L + 1442695040888963407L;
            return (int) ((state >>> 33) % bound);
        }

        int wild() {
            int[] odd = {Integer.MIN_VALUE, Integer.MAX_VALUE, -1, Integer.MIN_VALUE + 1,
                10000, 501, 10, 13, 20001, 4, 0, 120};
            return odd[below(odd.length)];
        }
    }

    /** Arguments: house, time, span, weight, step, many, number, other time, other house, place, row. */
    private static int[] arguments(Numbers numbers, int kind, int made) {
        int[] lows = {0, 0, 9600};
        int[] widths = {30, 9999, 400};
        int[] lengths = {8, 501, 501};
        int low = lows[kind];
        int[] a = {
            numbers.below(4), low + numbers.below(widths[kind]), numbers.below(lengths[kind]),
            1 + numbers.below(9), numbers.below(kind == 0 ? 4 : 200), 1 + numbers.below(12),
            numbers.below(made + 1), 0, numbers.below(4), numbers.below(12),
            1 + numbers.below(lengths[kind] - 1)
        };
        a[7] = a[1] + numbers.below(widths[kind]) - 3;
        if (numbers.below(8) == 0) {
            a[numbers.below(a.length)] = numbers.wild();
        }
        return a;
    }

    private static Object outcome(boolean ofModel, Model m, Bookinghouse x, int method, int[] a, char what) {
        try {
            return ofModel ? ofModel(m, method, a, what) : ofClass(x, method, a, what);
        } catch (RuntimeException e) {
            return e.getClass();
        }
    }

    private static char letterOf(Object outcome) {
        if (outcome == IndexOutOfBoundsException.class) {
            return 'o';
        }
        if (outcome == IllegalArgumentException.class) {
            return 'a';
        }
        if (outcome == NoSuchElementException.class) {
            return 'e';
        }
        if (outcome == IllegalStateException.class) {
            return 's';
        }
        return outcome == ArithmeticException.class ? 'm' : 'r';
    }

    private static int method(Numbers numbers) {
        // The calls that change something, and the sum, are made more often than the others.
        int drawn = numbers.below(64);
        return drawn < 31 ? drawn : drawn < 59 ? numbers.below(10) : 29;
    }

    public static void main(String[] args) {
        Check check = new Check();
        Map<String, Integer> seen = new TreeMap<>();
        for (int run = 0; run < RUNS; run++) {
            Numbers numbers = new Numbers(run);
            Model model = new Model();
            Bookinghouse x = new Bookinghouse();
            for (int call = 1; call < CALLS; call++) {
                int method = method(numbers);
                int[] a = arguments(numbers, run % 3, model.made.size());
                if ((method == 8 || method == 9) && numbers.below(3) > 0 && a[0] >= 0 && a[0] < 4) {
                    int near = numbers.below(run % 3 == 0 ? 6 : 300);
                    a[1] = model.clocks[a[0]] + (method == 8 ? near : -near);
                }
                String letters = method == 23 ? "begx" : "tswhxq";
                char what = letters.charAt(numbers.below(letters.length()));
                Object due = outcome(true, model, x, method, a, what);
                Object got = outcome(false, model, x, method, a, what);
                check.same("run " + run + ", call " + call + ", " + NAMES[method]
                        + java.util.Arrays.toString(a) + what, got, due);
                seen.merge(NAMES[method] + " " + letterOf(due), 1, Integer::sum);
            }
            check.same("run " + run + ", the last call, checksum", x.checksum(), model.checksum());
        }
        for (int i = 0; i < NAMES.length; i++) {
            for (char letter : ("r" + THROWS[i]).toCharArray()) {
                String outcome = NAMES[i] + " " + letter;
                check.yes("that the runs saw '" + outcome + "' often", seen.getOrDefault(outcome, 0) >= 20);
            }
        }
        check.end();
    }
}
