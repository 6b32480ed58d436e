import java.util.function.Supplier;

/** The sentences of the promises 1 to 3: a new object, and bookings that are made. */
final class BookEdges extends Edges {
    BookEdges(Check check) {
        super(check);
    }

    void all() {
        each(this::newObject, this::book, this::bookRanges, this::bookState, this::series, this::seriesRanges,
                this::seriesState);
    }

    private void newObject() {
        promise(1);
        sentence("Creates four houses without bookings; their clocks are 0");
        for (int h = 0; h < 4; h++) {
            int house = h;
            asked(Bookinghouse::new, "clock", 0, x -> x.clock(house));
            asked(Bookinghouse::new, "waiting", 0, x -> x.waiting(house));
            asked(Bookinghouse::new, "came", 0, x -> x.came(house));
            asked(Bookinghouse::new, "load", 0, x -> x.load(house));
            asked(Bookinghouse::new, "greatest", 0, x -> x.greatest(house));
            asked(Bookinghouse::new, "isQuiet", 1, x -> number(x.isQuiet(house)));
            answers(Bookinghouse::new, "book at 0", 0, x -> x.book(house, 0, 0, 1));
            answers(Bookinghouse::new, "run to 0", 0, x -> x.run(house, 0));
            answers(Bookinghouse::new, "back to 0", 0, x -> x.back(house, 0));
            refused(Bookinghouse::new, "back to 1", STATE, x -> x.back(house, 1));
            refused(Bookinghouse::new, "waits", ELEMENT, x -> x.waits(house, 0));
            refused(Bookinghouse::new, "cameAt", ELEMENT, x -> x.cameAt(house, 0));
        }
        for (int none : NO_HOUSES) {
            refused(Bookinghouse::new, "clock of house " + none, INDEX, x -> x.clock(none));
        }
        refused(Bookinghouse::new, "about the first booking", INDEX, x -> x.about(0, 'x'));
        Supplier<Bookinghouse> other = () -> {
            Bookinghouse x = new Bookinghouse();
            ready();
            return x;
        };
        yes("that another object has no booking", picture(other).equals(picture(Bookinghouse::new)));
        answers(other, "the first number beside another object", 0, x -> x.book(0, 0, 0, 1));
    }

    private void book() {
        promise(2);
        sentence("Makes a booking, which waits");
        Bookinghouse x = new Bookinghouse();
        x.run(2, 30);
        x.book(2, 40, 6, 7);
        waitingRow(x, 2, 0);
        cameRow(x, 2);
        same("what it is", x.about(0, 'x'), 0);
        same("its house", x.about(0, 'h'), 2);
        same("the clock", x.clock(2), 30);
        same("the crowd at its time", x.crowd(2, 40), 0);
        waitingRow(x, 0);
        waitingRow(x, 1);
        waitingRow(x, 3);
        houses("book", (y, h) -> y.book(h, 30, 1, 1), (y, h) -> y.book(h, -1, 501, 0), 8, 8, 8, 8);
        refused(made(120), "book in house 4 where 120 were made", INDEX, y -> y.book(4, 60, 1, 1));
        refused(waiting(48), "book in house -1", INDEX, y -> y.book(-1, 60, 1, 1));

        sentence("Returns its number");
        Bookinghouse z = new Bookinghouse();
        same("the first", z.book(3, 9, 1, 1), 0);
        same("the second, in another house", z.book(0, 5, 1, 1), 1);
        outcome(z, y -> y.book(0, 5, 1, 0));
        outcome(z, y -> y.book(4, 5, 1, 1));
        same("one behind two that were refused", z.book(0, 3, 1, 1), 2);
        z.callOff(0, 2);
        same("one behind one called off", z.book(0, 3, 1, 1), 3);
        z.next(0);
        same("one behind one that came", z.book(0, 3, 1, 1), 4);
        answers(made(119), "the last one", 119, y -> y.book(3, 0, 0, 1));
    }

    private void bookRanges() {
        promise(2);
        sentence("`time`: its time");
        for (int time : new int[] {0, 1, 9998, 9999}) {
            answers(Bookinghouse::new, "book at " + time, time, x -> x.about(x.book(0, time, 5, 5), 't'));
        }
        sentence("`span`: its span");
        for (int span : new int[] {0, 1, 499, 500}) {
            answers(Bookinghouse::new, "book of span " + span, span, x -> x.about(x.book(0, 5, span, 5), 's'));
        }
        sentence("`weight`: its weight");
        for (int weight : new int[] {1, 2, 8, 9}) {
            answers(Bookinghouse::new, "book of weight " + weight, weight,
                    x -> x.about(x.book(0, 5, 5, weight), 'w'));
        }
        sentence("Throws `IllegalArgumentException` if time, span or weight is out of range");
        for (int time : NO_TIMES) {
            wrongBook("book at " + time, time, 5, 5);
        }
        for (int span : new int[] {-1, 501, LOW, HIGH}) {
            wrongBook("book of span " + span, 60, span, 5);
        }
        for (int weight : new int[] {-1, 0, 10, LOW, HIGH}) {
            wrongBook("book of weight " + weight, 60, 5, weight);
        }
    }

    /** It is refused in a new object, and ahead of what the state refuses. */
    private void wrongBook(String call, int time, int span, int weight) {
        refused(Bookinghouse::new, call, ARGUMENT, x -> x.book(0, time, span, weight));
        refused(clockAt(61), call + " below the clock", ARGUMENT, x -> x.book(0, time, span, weight));
        refused(waiting(48), call + ", 48 wait", ARGUMENT, x -> x.book(0, time, span, weight));
        refused(made(120), call + ", 120 made", ARGUMENT, x -> x.book(3, time, span, weight));
    }

    private void bookState() {
        promise(2);
        sentence("Throws `IllegalStateException` if the time is below the clock, 48 wait in the house,"
                + " or 120 bookings were made");
        refused(clockAt(50), "book one below the clock", STATE, x -> x.book(0, 49, 1, 1));
        refused(clockAt(9999), "book at 0, the clock is 9999", STATE, x -> x.book(0, 0, 1, 1));
        answers(clockAt(50), "book at the clock", 0, x -> x.book(0, 50, 1, 1));
        answers(clockAt(9999), "book at the last clock", 0, x -> x.book(0, 9999, 1, 1));
        answers(clockAt(50), "book below another clock", 0, x -> x.book(1, 49, 1, 1));
        answers(after(x -> {
            x.run(0, 50);
            x.back(0, 49);
        }), "book at a clock that was brought back", 0, x -> x.book(0, 49, 1, 1));

        answers(waiting(47), "book where 47 wait", 47, x -> x.book(0, 60, 1, 1));
        refused(waiting(48), "book where 48 wait", STATE, x -> x.book(0, 60, 1, 1));
        answers(waiting(48), "book in another house", 48, x -> x.book(1, 60, 1, 1));
        answers(after(x -> {
            fill(x, 0, 60, 48);
            x.next(0);
        }), "book where one of 48 came", 48, x -> x.book(0, 60, 1, 1));
        answers(after(x -> {
            fill(x, 0, 60, 48);
            x.callOff(0, 9);
        }), "book where one of 48 is called off", 48, x -> x.book(0, 60, 1, 1));

        answers(made(119), "book where 119 were made", 119, x -> x.book(3, 0, 1, 1));
        for (int h = 2; h < 4; h++) {
            int house = h;
            refused(made(120), "book where 120 were made", STATE, x -> x.book(house, 60, 1, 1));
        }
        refused(after(x -> {
            fillAll(x, 120);
            x.callOff(0, 9);
        }), "book where one of 120 is called off", STATE, x -> x.book(3, 60, 1, 1));
        refused(after(x -> {
            fillAll(x, 120);
            x.run(0, 60);
        }), "book where 48 of 120 came", STATE, x -> x.book(0, 60, 1, 1));
    }

    private void series() {
        promise(3);
        sentence("Makes bookings in even steps, which wait; of the same span and weight");
        Bookinghouse x = new Bookinghouse();
        x.run(1, 30);
        x.series(1, 40, 7, 3, 6, 8);
        waitingRow(x, 1, 0, 1, 2);
        for (int number = 0; number < 3; number++) {
            same("time", x.about(number, 't'), 40 + 7 * number);
            same("span", x.about(number, 's'), 6);
            same("weight", x.about(number, 'w'), 8);
            same("house", x.about(number, 'h'), 1);
            same("what it is", x.about(number, 'x'), 0);
        }
        same("the clock", x.clock(1), 30);
        cameRow(x, 1);
        waitingRow(x, 0);
        houses("series", (y, h) -> y.series(h, 30, 1, 2, 1, 1), (y, h) -> y.series(h, -1, 501, 13, 501, 0), 8, 8, 8, 8);
        refused(made(120), "series in house 4 where 120 were made", INDEX, y -> y.series(4, 60, 0, 1, 1, 1));

        sentence("Returns the number of the first one");
        answers(Bookinghouse::new, "the first series", 0, y -> y.series(0, 5, 1, 12, 1, 1));
        answers(after(y -> y.series(3, 5, 1, 12, 1, 1)), "the second series", 12, y -> y.series(0, 5, 1, 2, 1, 1));
        answers(after(y -> outcome(y, z -> z.series(3, 5, 1, 13, 1, 1))), "a series behind one that was refused", 0,
                y -> y.series(0, 5, 1, 2, 1, 1));
        answers(made(119), "the last one", 119, y -> y.series(3, 0, 0, 1, 0, 1));
    }

    private void seriesRanges() {
        promise(3);
        sentence("`time`: the time of the first one");
        for (int time : new int[] {0, 1, 9998, 9999}) {
            answers(Bookinghouse::new, "series at " + time, time, x -> x.about(x.series(0, time, 9, 1, 5, 5), 't'));
        }
        sentence("`step`: what the time of each one is more than that of the one ahead of it, 0 to 500");
        for (int step : new int[] {0, 1, 499, 500}) {
            answers(Bookinghouse::new, "the last time in steps of " + step, 11 * step + 7, x -> {
                x.series(0, 7, step, 12, 5, 5);
                return x.about(11, 't');
            });
        }
        sentence("`many`: how many, 1 to 12");
        for (int many : new int[] {1, 2, 11, 12}) {
            answers(Bookinghouse::new, "waiting behind a series of " + many, many, x -> {
                x.series(0, 7, 1, many, 5, 5);
                return x.waiting(0);
            });
        }
        sentence("`span`: their span");
        for (int span : new int[] {0, 1, 499, 500}) {
            answers(Bookinghouse::new, "the last span of " + span, span, x -> {
                x.series(0, 5, 1, 3, span, 5);
                return x.about(2, 's');
            });
        }
        sentence("`weight`: their weight");
        for (int weight : new int[] {1, 2, 8, 9}) {
            answers(Bookinghouse::new, "the last weight of " + weight, weight, x -> {
                x.series(0, 5, 1, 3, 5, weight);
                return x.about(2, 'w');
            });
        }
        sentence("Throws `IllegalArgumentException` if step, many, span or weight is out of range,"
                + " or the time of one of them");
        for (int n : new int[] {-1, 501, LOW, HIGH}) {
            wrongSeries(60, n, 2, 5, 5);
            wrongSeries(60, n, 1, 5, 5);
            wrongSeries(60, 1, 2, n, 5);
        }
        for (int many : new int[] {-1, 0, 13, LOW, HIGH}) {
            wrongSeries(60, 0, many, 5, 5);
        }
        for (int weight : new int[] {-1, 0, 10, LOW, HIGH}) {
            wrongSeries(60, 1, 2, 5, weight);
        }
        for (int time : NO_TIMES) {
            wrongSeries(time, 0, 1, 5, 5);
            wrongSeries(time, 500, 12, 5, 5);
        }
        wrongSeries(-1, 1, 2, 5, 5);
        answers(Bookinghouse::new, "the last one at 9999", 0, x -> x.series(0, 9998, 1, 2, 5, 5));
        wrongSeries(9999, 1, 2, 5, 5);
        answers(Bookinghouse::new, "twelve, the last at 9999", 0, x -> x.series(0, 4499, 500, 12, 5, 5));
        wrongSeries(4500, 500, 12, 5, 5);
        answers(Bookinghouse::new, "one with a step above the last time", 0, x -> x.series(0, 9999, 500, 1, 5, 5));
        wrongSeries(9999, 500, 2, 5, 5);
        wrongSeries(60, HIGH, HIGH, 5, 5);
        wrongSeries(60, LOW, 3, 5, 5);
    }

    private void wrongSeries(int time, int step, int many, int span, int weight) {
        String call = "series at " + time + " " + step + " " + many + " " + span + " " + weight;
        refused(Bookinghouse::new, call, ARGUMENT, x -> x.series(0, time, step, many, span, weight));
        refused(clockAt(9999), call + " below the clock", ARGUMENT,
                x -> x.series(0, time, step, many, span, weight));
        refused(waiting(48), call + ", 48 wait", ARGUMENT, x -> x.series(0, time, step, many, span, weight));
        refused(made(120), call + ", 120 made", ARGUMENT, x -> x.series(3, time, step, many, span, weight));
    }

    private void seriesState() {
        promise(3);
        sentence("Throws `IllegalStateException` if the first time is below the clock, more than 48 would wait"
                + " in the house, or more than 120 would have been made");
        refused(clockAt(50), "series one below the clock", STATE, x -> x.series(0, 49, 0, 1, 1, 1));
        refused(clockAt(50), "series on both sides of the clock", STATE, x -> x.series(0, 49, 1, 9, 1, 1));
        answers(clockAt(50), "series from the clock on", 0, x -> x.series(0, 50, 1, 9, 1, 1));
        answers(clockAt(50), "series below another clock", 0, x -> x.series(1, 49, 1, 9, 1, 1));

        answers(waiting(36), "series of 12 where 36 wait", 36, x -> x.series(0, 60, 0, 12, 1, 1));
        refused(waiting(37), "series of 12 where 37 wait", STATE, x -> x.series(0, 60, 0, 12, 1, 1));
        answers(waiting(37), "series of 11 where 37 wait", 37, x -> x.series(0, 60, 0, 11, 1, 1));
        answers(waiting(47), "series of 1 where 47 wait", 47, x -> x.series(0, 60, 0, 1, 1, 1));
        refused(waiting(47), "series of 2 where 47 wait", STATE, x -> x.series(0, 60, 0, 2, 1, 1));
        refused(waiting(48), "series of 1 where 48 wait", STATE, x -> x.series(0, 60, 0, 1, 1, 1));
        answers(waiting(48), "series in another house", 48, x -> x.series(1, 60, 0, 12, 1, 1));
        answers(after(x -> {
            fill(x, 0, 60, 48);
            x.run(0, 60);
        }), "series where 48 came", 48, x -> x.series(0, 60, 0, 12, 1, 1));

        answers(made(108), "series of 12 where 108 were made", 108, x -> x.series(3, 60, 0, 12, 1, 1));
        refused(made(109), "series of 12 where 109 were made", STATE, x -> x.series(3, 60, 0, 12, 1, 1));
        answers(made(119), "series of 1 where 119 were made", 119, x -> x.series(3, 60, 0, 1, 1, 1));
        refused(made(119), "series of 2 where 119 were made", STATE, x -> x.series(3, 60, 0, 2, 1, 1));
        refused(made(120), "series of 1 where 120 were made", STATE, x -> x.series(3, 60, 0, 1, 1, 1));
        refused(after(x -> {
            fillAll(x, 120);
            x.callOffAll(0, 0, 61);
        }), "series of 1 where 48 of 120 are called off", STATE, x -> x.series(0, 60, 0, 1, 1, 1));
    }

    private static Supplier<Bookinghouse> clockAt(int time) {
        return after(x -> x.run(0, time));
    }

    /** So many wait in house 0. */
    private static Supplier<Bookinghouse> waiting(int many) {
        return after(x -> fill(x, 0, 60, many));
    }

    /** So many were made; none waits in house 3. */
    private static Supplier<Bookinghouse> made(int many) {
        return after(x -> fillAll(x, many));
    }
}
