import java.util.ArrayList;
import java.util.List;
import java.util.NoSuchElementException;
import java.util.function.Consumer;
import java.util.function.Supplier;
import java.util.function.ToLongFunction;

/**
 * What the tests of the document's sentences share. Every call that is looked at is made on a new
 * object, brought into its state by few calls, since an object is used for at most 512.
 */
abstract class Edges {
    static final Class<IndexOutOfBoundsException> INDEX = IndexOutOfBoundsException.class;
    static final Class<IllegalArgumentException> ARGUMENT = IllegalArgumentException.class;
    static final Class<IllegalStateException> STATE = IllegalStateException.class;
    static final Class<NoSuchElementException> ELEMENT = NoSuchElementException.class;
    static final Class<ArithmeticException> ARITHMETIC = ArithmeticException.class;
    static final int LOW = Integer.MIN_VALUE;
    static final int HIGH = Integer.MAX_VALUE;
    static final int[] NO_HOUSES = {-1, 4, LOW, HIGH};
    static final int[] NO_TIMES = {-1, 10000, LOW, HIGH};

    private static final int QUESTIONS_AT_ONCE = 300;
    private static final List<ToLongFunction<Bookinghouse>> QUESTIONS = questions();

    final Check check;
    private String promise = "";

    Edges(Check check) {
        this.check = check;
    }

    /** A call on a house of an object. */
    interface HouseCall {
        long of(Bookinghouse x, int house);
    }

    /** Makes these looks, one after the other, also behind one that an exception ends. */
    final void each(Runnable... looks) {
        for (Runnable look : looks) {
            try {
                look.run();
            } catch (RuntimeException e) {
                check.yes("that " + e + " is not thrown at " + e.getStackTrace()[0], false);
            }
        }
    }

    final void promise(int number) {
        promise = "Promise " + number + ": ";
    }

    final void sentence(String text) {
        check.sentence(promise + text);
    }

    final void same(String what, long got, long due) {
        check.same(what, got, due);
    }

    final void yes(String what, boolean holds) {
        check.yes(what, holds);
    }

    /** The call answers what is due. */
    final void answers(Supplier<Bookinghouse> state, String call, long due, ToLongFunction<Bookinghouse> made) {
        check.same(call, outcome(state, made), (Object) due);
    }

    /** The call answers what is due, and changes nothing. */
    final void asked(Supplier<Bookinghouse> state, String call, long due, ToLongFunction<Bookinghouse> made) {
        answers(state, call, due, made);
        changesNothing(state, call, made);
    }

    /** The call throws just this exception, and changes nothing. */
    final void refused(Supplier<Bookinghouse> state, String call, Class<? extends RuntimeException> due,
            Consumer<Bookinghouse> made) {
        ToLongFunction<Bookinghouse> tried = x -> {
            made.accept(x);
            return 0;
        };
        check.same(call, outcome(state, tried), due);
        changesNothing(state, call, tried);
    }

    private void changesNothing(Supplier<Bookinghouse> state, String call, ToLongFunction<Bookinghouse> made) {
        List<Object> before = picture(state);
        List<Object> behind = picture(() -> {
            Bookinghouse x = state.get();
            outcome(x, made);
            return x;
        });
        check.yes("that " + call + " changes nothing", before.equals(behind));
    }

    /** The call of the houses 0 to 3, each in the state ready(), and of houses that there are not. */
    final void houses(String call, HouseCall fine, HouseCall wrongInAll, long... dues) {
        sentence("`house`: 0 to 3");
        for (int h = 0; h < 4; h++) {
            int house = h;
            answers(Edges::ready, call + " of house " + h, dues[h], x -> fine.of(x, house));
        }
        sentence("Throws `IndexOutOfBoundsException` if there is no such house");
        for (int h : NO_HOUSES) {
            refused(Edges::ready, call + " of house " + h, INDEX, x -> fine.of(x, h));
            refused(Edges::ready, call + " of house " + h + ", wrong in all", INDEX, x -> wrongInAll.of(x, h));
        }
    }

    final void waitingRow(Bookinghouse x, int house, int... due) {
        same("waiting(" + house + ")", x.waiting(house), due.length);
        for (int i = 0; i < due.length && i < x.waiting(house); i++) {
            same("waits(" + house + ", " + i + ")", x.waits(house, i), due[i]);
        }
    }

    final void cameRow(Bookinghouse x, int house, int... due) {
        same("came(" + house + ")", x.came(house), due.length);
        for (int i = 0; i < due.length && i < x.came(house); i++) {
            same("cameAt(" + house + ", " + i + ")", x.cameAt(house, i), due[i]);
        }
    }

    static Supplier<Bookinghouse> after(Consumer<Bookinghouse> calls) {
        return () -> {
            Bookinghouse x = new Bookinghouse();
            calls.accept(x);
            return x;
        };
    }

    /** So many bookings more wait in the house, all at one time, with span 1 and weight 1. */
    static void fill(Bookinghouse x, int house, int time, int many) {
        for (int i = 0; i < many; i += 12) {
            x.series(house, time, 0, Math.min(12, many - i), 1, 1);
        }
    }

    /** So many bookings are made, which wait at 60 in the houses 0 to 2. */
    static void fillAll(Bookinghouse x, int many) {
        for (int house = 0; house < 3; house++) {
            fill(x, house, 60, Math.max(0, Math.min(48, many - 48 * house)));
        }
    }

    /** In each house h, 2h came, at 10 + h, with span 5 + h and weight 1 + h; 2h + 1 waits at 20 + h. */
    static Bookinghouse ready() {
        Bookinghouse x = new Bookinghouse();
        for (int house = 0; house < 4; house++) {
            x.book(house, 10 + house, 5 + house, 1 + house);
            x.book(house, 20 + house, 5 + house, 1 + house);
            x.next(house);
        }
        return x;
    }

    /** Four wait in house 0, at 10, 20, 30 and 40. */
    static Bookinghouse fourWait() {
        Bookinghouse x = new Bookinghouse();
        x.series(0, 10, 10, 4, 5, 1);
        return x;
    }

    /** In house 0 four came, at 10, 20, 30 and 40; in house 1 another one at 40; both clocks are 45. */
    static Bookinghouse fourCame() {
        Bookinghouse x = fourWait();
        x.book(1, 40, 5, 1);
        x.run(0, 45);
        x.run(1, 45);
        return x;
    }

    /** House 0 with a crowd of 3 at 10 to 14, 5 at 15 to 19, 2 at 20 to 24, and 9 at 30. */
    static Bookinghouse crowded() {
        Bookinghouse x = new Bookinghouse();
        x.book(0, 10, 10, 3);
        x.book(0, 15, 10, 2);
        x.book(0, 30, 1, 9);
        x.book(0, 30, 0, 7);
        x.run(0, 30);
        return x;
    }

    /** In house 0 one came at 9999 with span 500 and weight 2: it is on up to 10498. */
    static Bookinghouse onAtTheEnd() {
        Bookinghouse x = new Bookinghouse();
        x.book(0, 9999, 500, 2);
        x.next(0);
        return x;
    }

    /** In house 0 only bookings of span 0 came, and one of span 5 waits; one of span 5 came in house 1. */
    static Bookinghouse neverBusy() {
        Bookinghouse x = new Bookinghouse();
        x.series(0, 10, 10, 2, 0, 9);
        x.book(0, 30, 5, 9);
        x.run(0, 20);
        x.book(1, 10, 5, 9);
        x.next(1);
        return x;
    }

    /** In house 0 all 120 came at 9999, each with span 500 and weight 9. */
    static Bookinghouse all120() {
        Bookinghouse x = new Bookinghouse();
        for (int i = 0; i < 10; i++) {
            x.series(0, 9999, 0, 12, 500, 9);
            x.run(0, 9999);
        }
        return x;
    }

    /** In house 0 all 120 came, in rows of twelve, each busy at one time and the next time free. */
    static Bookinghouse spans120() {
        Bookinghouse x = new Bookinghouse();
        for (int i = 0; i < 10; i++) {
            x.series(0, 36 * i, 2, 12, 1, 1);
            x.run(0, 36 * i + 22);
        }
        return x;
    }

    static long number(boolean answer) {
        return answer ? 1 : 0;
    }

    /** What a call answers or throws. */
    static Object outcome(Bookinghouse x, ToLongFunction<Bookinghouse> made) {
        return outcome(() -> x, made);
    }

    /** What a call answers or throws on the object of this state, or that the state could not be reached. */
    static Object outcome(Supplier<Bookinghouse> state, ToLongFunction<Bookinghouse> made) {
        Bookinghouse x = null;
        try {
            x = state.get();
            return made.applyAsLong(x);
        } catch (RuntimeException e) {
            return x == null ? "no state, but " + e : e.getClass();
        }
    }

    /** All that can be asked of the state, few questions to each of several objects that are made for it. */
    static List<Object> picture(Supplier<Bookinghouse> state) {
        List<Object> answers = new ArrayList<>();
        for (int i = 0; i < QUESTIONS.size(); i += QUESTIONS_AT_ONCE) {
            int end = Math.min(i + QUESTIONS_AT_ONCE, QUESTIONS.size());
            List<ToLongFunction<Bookinghouse>> some = QUESTIONS.subList(i, end);
            answers.add(outcome(state, x -> {
                for (ToLongFunction<Bookinghouse> question : some) {
                    answers.add(outcome(x, question));
                }
                return 0;
            }));
        }
        return answers;
    }

    private static List<ToLongFunction<Bookinghouse>> questions() {
        List<ToLongFunction<Bookinghouse>> all = new ArrayList<>();
        for (int i = 0; i <= 120; i++) {
            int number = i;
            for (char what : new char[] {'t', 's', 'w', 'h', 'x'}) {
                all.add(x -> x.about(number, what));
            }
        }
        for (int i = 0; i < 4; i++) {
            int house = i;
            all.add(x -> x.clock(house));
            all.add(x -> x.waiting(house));
            all.add(x -> x.came(house));
            all.add(x -> x.greatest(house));
            all.add(x -> x.spans(house));
            all.add(x -> x.load(house));
        }
        // The sum holds the rows of those that wait and came, and the changes of the crowds.
        all.add(Bookinghouse::checksum);
        all.add(x -> number(x.isSound()));
        return all;
    }
}
