import java.util.List;
import java.util.function.Consumer;
import java.util.function.Supplier;

/** The sentences of "Terms" about exceptions. */
final class RefusalEdges extends Edges {
    RefusalEdges(Check check) {
        super(check);
    }

    void all() {
        each(this::throwsChangeNothing, this::documentedFirst);
    }

    /**
     * 120 bookings were made. House 0 has the clock 50, three that came up to it, and 48 that wait at 60;
     * house 1 has the clock 0 and 48 that wait at 40, house 2 the clock 0 and 21 at 60, house 3 none.
     */
    private static Bookinghouse mixed() {
        Bookinghouse x = new Bookinghouse();
        x.series(0, 10, 20, 3, 5, 2);
        x.run(0, 50);
        fill(x, 0, 60, 48);
        fill(x, 1, 40, 48);
        fill(x, 2, 60, 21);
        return x;
    }

    /** Many refused calls on one object leave all as it was, and so do what is done behind them. */
    private void throwsChangeNothing() {
        sentence("A method that throws an exception changes nothing");
        List<Consumer<Bookinghouse>> calls = List.of(x -> x.book(4, 60, 1, 1), x -> x.book(3, 60, 501, 1),
                x -> x.book(0, 49, 1, 1), x -> x.book(0, 60, 1, 1), x -> x.book(3, 60, 1, 1),
                x -> x.series(-1, 60, 1, 2, 1, 1), x -> x.series(3, 9999, 1, 2, 1, 1), x -> x.series(0, 49, 1, 2, 1, 1),
                x -> x.series(2, 60, 1, 2, 1, 1), x -> x.callOff(4, 60), x -> x.callOffAll(4, 0, 99),
                x -> x.callOffAll(0, 61, 60), x -> x.put(4, 60, 60), x -> x.put(0, 5, 10000), x -> x.put(0, 0, 60),
                x -> x.put(0, 5, 49), x -> x.join(0, 4), x -> x.join(0, 0), x -> x.join(0, 1), x -> x.join(0, 2),
                x -> x.part(0, 4, 0), x -> x.part(0, 0, 0), x -> x.part(1, 0, 40), x -> x.part(2, 0, 60),
                x -> x.next(4), x -> x.next(3), x -> x.run(4, 60), x -> x.run(0, 10000), x -> x.run(0, 49),
                x -> x.back(4, 0), x -> x.back(0, -1), x -> x.back(0, 51), x -> x.back(0, 9), x -> x.clock(4),
                x -> x.waiting(4), x -> x.came(4), x -> x.waits(0, 48), x -> x.cameAt(0, 3), x -> x.nextTime(0, 61),
                x -> x.about(120, 't'), x -> x.about(0, 'q'), x -> x.crowd(4, 10), x -> x.change(4, 10),
                x -> x.greatest(4), x -> x.greatestFrom(3), x -> x.busy(0, 1, 0), x -> x.spans(4),
                x -> x.span(0, 0, 'q'), x -> x.span(0, 3, 'b'), x -> x.free(0, 0, 0), x -> x.load(4),
                x -> x.mean(3), x -> x.share(3), x -> x.isQuiet(4));
        for (Consumer<Bookinghouse> call : calls) {
            yes("that call " + calls.indexOf(call) + " is refused", outcomeOf(mixed(), call) instanceof Class);
        }
        Supplier<Bookinghouse> behind = () -> {
            Bookinghouse x = mixed();
            calls.forEach(call -> outcomeOf(x, call));
            return x;
        };
        yes("that all refused calls together change nothing", picture(behind).equals(picture(RefusalEdges::mixed)));
        List<Consumer<Bookinghouse>> more = List.of(x -> x.next(0), x -> x.run(0, 70), x -> x.back(0, 30),
                x -> x.join(3, 1), x -> x.part(2, 0, 0), x -> x.callOffAll(3, 40, 41), x -> x.back(0, 0),
                x -> x.put(0, 0, 77));
        for (int i = 1; i <= more.size(); i++) {
            List<Consumer<Bookinghouse>> steps = more.subList(0, i);
            yes("that " + i + " steps behind refused calls lead to the same",
                    picture(done(behind, steps)).equals(picture(done(RefusalEdges::mixed, steps))));
        }
    }

    private static Supplier<Bookinghouse> done(Supplier<Bookinghouse> state, List<Consumer<Bookinghouse>> steps) {
        return () -> {
            Bookinghouse x = state.get();
            steps.forEach(step -> outcomeOf(x, step));
            return x;
        };
    }

    private static Object outcomeOf(Bookinghouse x, Consumer<Bookinghouse> call) {
        return outcome(x, y -> {
            call.accept(y);
            return 0;
        });
    }

    private void documentedFirst() {
        sentence("If several exceptions apply, the one that is documented first is thrown");
        first("book: no house, weight 0, 120 made", INDEX, x -> x.book(4, 60, 1, 0));
        first("book: weight 0, below the clock, 48 wait, 120 made", ARGUMENT, x -> x.book(0, 49, 1, 0));
        first("book: time -1, below the clock", ARGUMENT, x -> x.book(0, -1, 1, 1));
        first("book: span 501, 48 wait", ARGUMENT, x -> x.book(0, 60, 501, 1));
        first("book: weight 10, 120 made", ARGUMENT, x -> x.book(3, 60, 1, 10));
        first("series: no house, many 0, 120 made", INDEX, x -> x.series(4, 60, 1, 0, 1, 1));
        first("series: the last time 10000, below the clock", ARGUMENT, x -> x.series(0, 49, 500, 12, 501, 1));
        first("series: step 501, 48 wait", ARGUMENT, x -> x.series(0, 60, 501, 1, 1, 1));
        first("series: many 13, 120 made", ARGUMENT, x -> x.series(3, 60, 1, 13, 1, 1));
        first("callOffAll: no house, from above to", INDEX, x -> x.callOffAll(4, 2, 1));
        first("put: no house, time -1, no booking", INDEX, x -> x.put(4, -1, -1));
        first("put: time -1, no booking, below the clock", ARGUMENT, x -> x.put(0, 0, -1));
        first("put: time -1, below the clock", ARGUMENT, x -> x.put(0, 5, -1));
        first("put: no booking, below the clock", ELEMENT, x -> x.put(0, 0, 49));
        for (int none : NO_HOUSES) {
            first("join: no house, both the same", INDEX, x -> x.join(none, none));
            first("join: no other house, 48 wait", INDEX, x -> x.join(0, none));
            first("part: no house, both the same", INDEX, x -> x.part(none, none, 0));
            first("part: no house, 48 wait in the other", INDEX, x -> x.part(none, 0, 0));
        }
        first("run: no house, time -1", INDEX, x -> x.run(4, -1));
        first("run: time -1, below the clock", ARGUMENT, x -> x.run(0, -1));
        first("back: no house, time 10000", INDEX, x -> x.back(4, 10000));
        first("back: time 10000, above the clock", ARGUMENT, x -> x.back(0, 10000));
        first("back: time -1, more than 48 would wait", ARGUMENT, x -> x.back(0, -1));
        first("next: no house, none waits", INDEX, x -> x.next(4));
        first("waits: no house, no place", INDEX, x -> x.waits(4, -1));
        first("cameAt: no house, no place", INDEX, x -> x.cameAt(4, -1));
        first("nextTime: no house, none", INDEX, x -> x.nextTime(4, HIGH));
        first("about: no booking, no such sign", INDEX, x -> x.about(120, 'q'));
        first("greatestFrom: no house, no time is busy", INDEX, x -> x.greatestFrom(4));
        first("busy: no house, from above to", INDEX, x -> x.busy(4, 2, 1));
        first("span: no house, no such sign, no place", INDEX, x -> x.span(4, -1, 'q'));
        first("span: no such sign, no place", ARGUMENT, x -> x.span(0, 3, 'q'));
        first("free: no house, from -1", INDEX, x -> x.free(4, -1, 0));
        first("mean: no house, no time is busy", INDEX, x -> x.mean(4));
        first("share: no house, none came or waits", INDEX, x -> x.share(4));
    }

    private void first(String call, Class<? extends RuntimeException> due, Consumer<Bookinghouse> made) {
        refused(RefusalEdges::mixed, call, due, made);
    }
}
