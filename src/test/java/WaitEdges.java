import java.util.function.Supplier;

/** The sentences of the promises 4 to 8: bookings that are called off, put, joined and parted. */
final class WaitEdges extends Edges {
    WaitEdges(Check check) {
        super(check);
    }

    void all() {
        each(this::callOff, this::callOffAnswers, this::callOffAll, this::callOffAllEdges, this::put,
                this::putAnswers, this::putRefused, this::join, this::joinAnswers, this::joinRefused, this::part,
                this::partAnswers, this::partRefused);
    }

    private void callOff() {
        promise(4);
        sentence("Calls a booking off, if it waits in the house");
        int[][] rows = {{1, 2, 3}, {0, 2, 3}, {0, 1, 3}, {0, 1, 2}};
        for (int number = 0; number < 4; number++) {
            Bookinghouse x = fourWait();
            x.callOff(0, number);
            waitingRow(x, 0, rows[number]);
            same("what it is", x.about(number, 'x'), 2);
            same("its house", x.about(number, 'h'), 0);
            same("the clock", x.clock(0), 0);
            cameRow(x, 0);
        }
        houses("callOff", (x, h) -> number(x.callOff(h, 5)), (x, h) -> number(x.callOff(h, -1)), 0, 0, 1, 0);
    }

    private void callOffAnswers() {
        promise(4);
        sentence("Returns whether it did");
        answers(Edges::fourWait, "callOff of the first", 1, x -> number(x.callOff(0, 0)));
        answers(Edges::fourWait, "callOff of the last", 1, x -> number(x.callOff(0, 3)));
        asked(Edges::fourWait, "callOff in another house", 0, x -> number(x.callOff(1, 0)));
        asked(Edges::ready, "callOff of one that came", 0, x -> number(x.callOff(0, 0)));
        asked(oneCalledOff(), "callOff of one called off", 0, x -> number(x.callOff(0, 0)));
        answers(after(x -> {
            x.book(0, 7, 1, 1);
            x.run(0, 6);
        }), "callOff of one that has not come yet", 1, x -> number(x.callOff(0, 0)));
        answers(after(x -> {
            x.book(0, 7, 1, 1);
            x.next(0);
            x.back(0, 6);
        }), "callOff of one that was brought back", 1, x -> number(x.callOff(0, 0)));
        asked(oneJoined(), "callOff where it waited ahead of join", 0, x -> number(x.callOff(0, 0)));
        answers(oneJoined(), "callOff where it waits behind join", 1, x -> number(x.callOff(3, 0)));

        sentence("`number`: its number, or any other one");
        for (int number : new int[] {-1, 4, 47, 48, 119, 120, LOW, HIGH}) {
            asked(Edges::fourWait, "callOff of " + number, 0, x -> number(x.callOff(0, number)));
            asked(Bookinghouse::new, "callOff of none, " + number, 0, x -> number(x.callOff(0, number)));
        }
        asked(Bookinghouse::new, "callOff of 0 in a new object", 0, x -> number(x.callOff(0, 0)));
        answers(after(x -> fillAll(x, 120)), "callOff of 119", 1, x -> number(x.callOff(2, 119)));
    }

    private void callOffAll() {
        promise(5);
        sentence("Calls off all bookings that wait in a house at the times from one on, up to, not with, another one");
        Bookinghouse x = fourWait();
        x.series(1, 10, 10, 4, 5, 1);
        same("callOffAll(0, 20, 40)", x.callOffAll(0, 20, 40), 2);
        waitingRow(x, 0, 0, 3);
        waitingRow(x, 1, 4, 5, 6, 7);
        for (int number = 0; number < 4; number++) {
            same("what it is", x.about(number, 'x'), number == 1 || number == 2 ? 2 : 0);
            same("its house", x.about(number, 'h'), 0);
        }
        same("the clock", x.clock(0), 0);
        Bookinghouse y = ready();
        same("callOffAll of what came and what waits", y.callOffAll(0, 0, 10000), 1);
        cameRow(y, 0, 0);
        same("what came", y.about(0, 'x'), 1);
        houses("callOffAll", (z, h) -> z.callOffAll(h, 21, 23), (z, h) -> z.callOffAll(h, 23, 21), 0, 1, 1, 0);

        sentence("Returns how many they were");
        asked(Bookinghouse::new, "callOffAll of none", 0, z -> z.callOffAll(0, LOW, HIGH));
        answers(Edges::fourWait, "callOffAll of one", 1, z -> z.callOffAll(0, 40, 41));
        answers(after(z -> fill(z, 0, 60, 48)), "callOffAll of 48", 48, z -> z.callOffAll(0, 60, 61));
        asked(oneCalledOff(), "callOffAll of one called off", 0, z -> z.callOffAll(0, LOW, HIGH));
    }

    private void callOffAllEdges() {
        promise(5);
        sentence("`from`: the first time, or any other number");
        int[][] froms = {{LOW, 4}, {-1, 4}, {0, 4}, {9, 4}, {10, 4}, {11, 3}, {40, 1}, {41, 0}, {10000, 0}, {HIGH, 0}};
        for (int[] f : froms) {
            answers(Edges::fourWait, "callOffAll from " + f[0], f[1], x -> x.callOffAll(0, f[0], HIGH));
        }
        sentence("`to`: the time behind the last one, or any other number");
        int[][] tos = {{LOW, 0}, {-1, 0}, {0, 0}, {10, 0}, {11, 1}, {40, 3}, {41, 4}, {10000, 4}, {HIGH, 4}};
        for (int[] t : tos) {
            answers(Edges::fourWait, "callOffAll up to " + t[0], t[1], x -> x.callOffAll(0, LOW, t[0]));
        }
        Supplier<Bookinghouse> atFirst = after(x -> x.book(0, 0, 1, 1));
        answers(atFirst, "callOffAll at 0", 1, x -> x.callOffAll(0, 0, 1));
        asked(atFirst, "callOffAll up to 0", 0, x -> x.callOffAll(0, -1, 0));
        Supplier<Bookinghouse> atLast = after(x -> x.book(0, 9999, 1, 1));
        answers(atLast, "callOffAll at 9999", 1, x -> x.callOffAll(0, 9999, 10000));
        asked(atLast, "callOffAll up to 9999", 0, x -> x.callOffAll(0, 0, 9999));

        sentence("Throws `IllegalArgumentException` if from is above to");
        for (int time : new int[] {LOW, -1, 0, 10, 20, 9999, HIGH}) {
            asked(Edges::fourWait, "callOffAll from and to " + time, 0, x -> x.callOffAll(0, time, time));
        }
        int[][] turned = {{11, 10}, {20, 10}, {0, -1}, {10000, 9999}, {HIGH, LOW}, {HIGH, HIGH - 1}, {LOW + 1, LOW}};
        for (int[] t : turned) {
            String call = "callOffAll from " + t[0] + " to " + t[1];
            refused(Edges::fourWait, call, ARGUMENT, x -> x.callOffAll(0, t[0], t[1]));
            refused(Bookinghouse::new, call + " of none", ARGUMENT, x -> x.callOffAll(0, t[0], t[1]));
        }
    }

    private void put() {
        promise(6);
        sentence("Puts a booking that waits to another time, or the same one");
        puts(2, 30, 0, 1, 2, 3);
        puts(2, 21, 0, 1, 2, 3);
        puts(2, 20, 0, 1, 2, 3);
        puts(2, 19, 0, 2, 1, 3);
        puts(2, 9, 2, 0, 1, 3);
        puts(2, 39, 0, 1, 2, 3);
        puts(2, 40, 0, 1, 2, 3);
        puts(2, 41, 0, 1, 3, 2);
        puts(1, 10, 0, 1, 2, 3);
        puts(1, 30, 0, 1, 2, 3);
        puts(3, 10, 0, 3, 1, 2);
        puts(0, 40, 1, 2, 0, 3);
        answers(after(x -> fill(x, 0, 60, 48)), "put where 48 wait", 60, x -> x.put(0, 47, 0));
        answers(after(x -> fillAll(x, 120)), "put where 120 were made", 60, x -> x.put(2, 119, 9999));
        houses("put", (x, h) -> x.put(h, 2 * h + 1, 50), (x, h) -> x.put(h, -1, -1), 20, 21, 22, 23);
    }

    private void puts(int number, int time, int... row) {
        Bookinghouse x = fourWait();
        x.put(0, number, time);
        waitingRow(x, 0, row);
        same("its time", x.about(number, 't'), time);
        same("its span", x.about(number, 's'), 5);
        same("its weight", x.about(number, 'w'), 1);
        same("its house", x.about(number, 'h'), 0);
        same("what it is", x.about(number, 'x'), 0);
        same("the clock", x.clock(0), 0);
    }

    private void putAnswers() {
        promise(6);
        sentence("`number`: its number");
        for (int number = 0; number < 4; number++) {
            int n = number;
            answers(Edges::fourWait, "put of " + n, 10 + 10 * n, x -> x.put(0, n, 50));
        }
        sentence("`time`: the time");
        for (int time : new int[] {0, 1, 9998, 9999}) {
            answers(Edges::fourWait, "the time behind put to " + time, time, x -> {
                x.put(0, 2, time);
                return x.about(2, 't');
            });
        }
        sentence("Returns the time that it had");
        asked(Edges::fourWait, "put to the same time", 30, x -> x.put(0, 2, 30));
        answers(Edges::fourWait, "put for the second time", 77, x -> {
            x.put(0, 2, 77);
            return x.put(0, 2, 30);
        });
        answers(after(x -> x.book(0, 0, 1, 1)), "put of one at 0", 0, x -> x.put(0, 0, 9999));
        answers(after(x -> x.book(0, 9999, 1, 1)), "put of one at 9999", 9999, x -> x.put(0, 0, 0));
    }

    private void putRefused() {
        promise(6);
        sentence("Throws `IllegalArgumentException` if time is out of range");
        for (int time : NO_TIMES) {
            refused(Edges::fourWait, "put to " + time, ARGUMENT, x -> x.put(0, 0, time));
            refused(Edges::fourWait, "put of none to " + time, ARGUMENT, x -> x.put(0, 4, time));
            refused(Bookinghouse::new, "put to " + time + " in a new object", ARGUMENT, x -> x.put(0, 0, time));
            refused(Edges::ready, "put to " + time + " behind a clock", ARGUMENT, x -> x.put(0, 1, time));
        }
        sentence("Throws `NoSuchElementException` if no such booking waits in the house");
        for (int number : new int[] {-1, 4, 48, 119, 120, LOW, HIGH}) {
            refused(Edges::fourWait, "put of " + number, ELEMENT, x -> x.put(0, number, 50));
        }
        refused(Bookinghouse::new, "put in a new object", ELEMENT, x -> x.put(0, 0, 50));
        refused(Edges::fourWait, "put in another house", ELEMENT, x -> x.put(1, 0, 50));
        refused(Edges::ready, "put of one that came", ELEMENT, x -> x.put(0, 0, 50));
        refused(Edges::ready, "put of one that came, below the clock", ELEMENT, x -> x.put(0, 0, 9));
        refused(oneCalledOff(), "put of one called off", ELEMENT, x -> x.put(0, 0, 50));
        refused(after(x -> x.run(0, 50)), "put of none below the clock", ELEMENT, x -> x.put(0, 0, 49));
        refused(oneJoined(), "put where it waited ahead of join", ELEMENT, x -> x.put(0, 0, 50));
        answers(oneJoined(), "put where it waits behind join", 7, x -> x.put(3, 0, 50));

        sentence("Throws `IllegalStateException` if the time is below the clock");
        refused(Edges::ready, "put one below the clock", STATE, x -> x.put(0, 1, 9));
        refused(Edges::ready, "put to 0, the clock is 10", STATE, x -> x.put(0, 1, 0));
        answers(Edges::ready, "put to the clock", 20, x -> x.put(0, 1, 10));
        refused(Edges::ready, "put below the clock of house 3", STATE, x -> x.put(3, 7, 12));
        answers(Edges::ready, "put below the clock of house 3 in house 2", 22, x -> x.put(2, 5, 12));
        answers(after(x -> {
            x.book(0, 9999, 1, 1);
            x.next(0);
            x.back(0, 5);
        }), "put to a clock that was brought back", 9999, x -> x.put(0, 0, 5));
    }

    private void join() {
        promise(7);
        sentence("Joins two houses: all bookings that wait in the other one wait in the first one then");
        Bookinghouse x = fourWait();
        x.series(1, 10, 5, 3, 6, 2);
        x.join(0, 1);
        waitingRow(x, 0, 0, 4, 5, 1, 6, 2, 3);
        waitingRow(x, 1);
        for (int number = 0; number < 7; number++) {
            same("its house", x.about(number, 'h'), 0);
            same("what it is", x.about(number, 'x'), 0);
            same("its time", x.about(number, 't'), number < 4 ? 10 + 10 * number : 5 * number - 10);
        }
        sentence("Clocks, and what came, stay");
        Bookinghouse y = ready();
        y.join(0, 3);
        clocksAndWhatCameStay(y);
        houses("join", (z, h) -> z.join(h, h == 0 ? 1 : 0), (z, h) -> z.join(h, h), 1, 1, 1, 1);
    }

    private void clocksAndWhatCameStay(Bookinghouse x) {
        for (int house = 0; house < 4; house++) {
            same("the clock", x.clock(house), 10 + house);
            cameRow(x, house, 2 * house);
            same("the house of the one that came", x.about(2 * house, 'h'), house);
            same("that it came", x.about(2 * house, 'x'), 1);
            same("the crowd", x.crowd(house, 13), 1 + house);
        }
    }

    private void joinAnswers() {
        promise(7);
        sentence("`other`: the other one, 0 to 3");
        for (int h = 0; h < 4; h++) {
            int house = (h + 1) % 4;
            int other = h;
            answers(Edges::ready, "where it waits behind join with " + h, house, x -> {
                x.join(house, other);
                return x.about(2 * other + 1, 'h');
            });
        }
        sentence("Throws `IndexOutOfBoundsException` if there is no such house");
        for (int none : NO_HOUSES) {
            refused(Edges::ready, "join of 0 with " + none, INDEX, x -> x.join(0, none));
            refused(Edges::ready, "join of 3 with " + none, INDEX, x -> x.join(3, none));
        }
        sentence("Returns how many they were");
        asked(Bookinghouse::new, "join of none with none", 0, x -> x.join(0, 1));
        asked(Edges::fourWait, "join of four with none", 0, x -> x.join(0, 1));
        answers(Edges::fourWait, "join of none with four", 4, x -> x.join(1, 0));
        answers(after(x -> fill(x, 3, 60, 48)), "join of none with 48", 48, x -> x.join(2, 3));
    }

    private void joinRefused() {
        promise(7);
        sentence("Throws `IllegalStateException` if both are the same, a booking that waits in the other one has a"
                + " time below the clock of the first one, or more than 48 would wait there");
        for (int h = 0; h < 4; h++) {
            int house = h;
            refused(Edges::ready, "join with itself", STATE, x -> x.join(house, house));
            refused(Bookinghouse::new, "join of none with itself", STATE, x -> x.join(house, house));
        }
        refused(fourBeside(11), "join one below the clock", STATE, x -> x.join(1, 0));
        answers(fourBeside(10), "join at the clock", 4, x -> x.join(1, 0));
        refused(fourBeside(9999), "join below the last clock", STATE, x -> x.join(1, 0));
        asked(fourBeside(9999), "join of none to the last clock", 0, x -> x.join(1, 2));
        answers(clocksAhead(), "join to an earlier clock", 1, x -> x.join(1, 0));
        refused(clocksAhead(), "join to a later clock", STATE, x -> x.join(0, 1));
        refused(after(x -> {
            x.series(0, 10, 10, 4, 5, 1);
            x.put(0, 3, 5);
            x.run(1, 6);
        }), "join with only the last number below the clock", STATE, x -> x.join(1, 0));

        int[][] fits = {{44, 4}, {47, 1}, {48, 0}, {0, 48}, {1, 47}};
        for (int[] f : fits) {
            answers(beside(f[0], f[1]), "join of " + f[0] + " with " + f[1], f[1], x -> x.join(1, 0));
        }
        int[][] fitsNot = {{45, 4}, {48, 1}, {1, 48}, {48, 48}, {47, 2}};
        for (int[] f : fitsNot) {
            refused(beside(f[0], f[1]), "join of " + f[0] + " with " + f[1], STATE, x -> x.join(1, 0));
        }
        answers(after(x -> {
            fill(x, 1, 60, 48);
            x.run(1, 60);
            fill(x, 0, 60, 3);
        }), "join where 48 came", 3, x -> x.join(1, 0));
    }

    private void part() {
        promise(8);
        sentence("Parts a house: all bookings that wait in it at a time or behind it wait in the other one then");
        Bookinghouse x = fourWait();
        x.series(1, 10, 20, 3, 6, 2);
        x.part(0, 1, 30);
        waitingRow(x, 0, 0, 1);
        waitingRow(x, 1, 4, 2, 5, 3, 6);
        for (int number = 0; number < 7; number++) {
            same("its house", x.about(number, 'h'), number < 2 ? 0 : 1);
            same("what it is", x.about(number, 'x'), 0);
            same("its time", x.about(number, 't'), number < 4 ? 10 + 10 * number : 20 * number - 70);
        }
        sentence("Clocks, and what came, stay");
        Bookinghouse y = ready();
        y.part(0, 3, 5);
        clocksAndWhatCameStay(y);
        houses("part", (z, h) -> z.part(h, h == 0 ? 1 : 0, 22), (z, h) -> z.part(h, h, 22), 0, 0, 1, 1);
    }

    private void partAnswers() {
        promise(8);
        sentence("`other`: the other one, 0 to 3");
        for (int h = 0; h < 4; h++) {
            int house = (h + 1) % 4;
            int other = h;
            answers(Edges::ready, "where it waits behind part to " + h, other, x -> {
                x.part(house, other, 0);
                return x.about(2 * house + 1, 'h');
            });
        }
        sentence("Throws `IndexOutOfBoundsException` if there is no such house");
        for (int none : NO_HOUSES) {
            refused(Edges::ready, "part of 0 to " + none, INDEX, x -> x.part(0, none, 0));
            refused(Edges::ready, "part of 3 to " + none, INDEX, x -> x.part(3, none, HIGH));
        }
        sentence("`time`: the time, or any other number");
        int[][] times = {{LOW, 4}, {-1, 4}, {0, 4}, {9, 4}, {10, 4}, {11, 3}, {40, 1}, {41, 0}, {10000, 0}, {HIGH, 0}};
        for (int[] t : times) {
            answers(Edges::fourWait, "part at " + t[0], t[1], x -> x.part(0, 1, t[0]));
        }
        answers(after(x -> x.book(0, 0, 1, 1)), "part at 0", 1, x -> x.part(0, 1, 0));
        answers(after(x -> x.book(0, 9999, 1, 1)), "part at 9999", 1, x -> x.part(0, 1, 9999));
        asked(after(x -> x.book(0, 9999, 1, 1)), "part at 10000", 0, x -> x.part(0, 1, 10000));

        sentence("Returns how many they were");
        asked(Bookinghouse::new, "part of none", 0, x -> x.part(0, 1, LOW));
        asked(Edges::fourWait, "part of four behind them", 0, x -> x.part(0, 1, 41));
        answers(after(x -> fill(x, 3, 60, 48)), "part of 48", 48, x -> x.part(3, 2, 60));
    }

    private void partRefused() {
        promise(8);
        sentence("Throws `IllegalStateException` if both are the same, one of these bookings has a time below the"
                + " clock of the other house, or more than 48 would wait there");
        for (int h = 0; h < 4; h++) {
            int house = h;
            refused(Edges::ready, "part to itself", STATE, x -> x.part(house, house, 0));
            refused(Edges::ready, "part of none to itself", STATE, x -> x.part(house, house, HIGH));
            refused(Bookinghouse::new, "part of a new house to itself", STATE, x -> x.part(house, house, 0));
        }
        refused(fourBeside(11), "part one below the other clock", STATE, x -> x.part(0, 1, 10));
        answers(fourBeside(11), "part without the one below the other clock", 3, x -> x.part(0, 1, 11));
        answers(fourBeside(10), "part at the other clock", 4, x -> x.part(0, 1, 10));
        refused(fourBeside(41), "part of the last one below the other clock", STATE, x -> x.part(0, 1, 40));
        answers(fourBeside(40), "part of the last one at the other clock", 1, x -> x.part(0, 1, 40));
        asked(fourBeside(9999), "part of none to the last clock", 0, x -> x.part(0, 1, 41));
        answers(clocksAhead(), "part to an earlier clock", 1, x -> x.part(0, 1, 0));
        refused(clocksAhead(), "part to a later clock", STATE, x -> x.part(1, 0, 0));

        int[][] fits = {{44, 4}, {47, 1}, {48, 0}, {0, 48}, {1, 47}};
        for (int[] f : fits) {
            answers(beside(f[0], f[1]), "part of " + f[1] + " to " + f[0], f[1], x -> x.part(0, 1, 60));
        }
        int[][] fitsNot = {{45, 4}, {48, 1}, {1, 48}, {48, 48}, {47, 2}};
        for (int[] f : fitsNot) {
            refused(beside(f[0], f[1]), "part of " + f[1] + " to " + f[0], STATE, x -> x.part(0, 1, 60));
        }
        Supplier<Bookinghouse> split = after(x -> {
            fill(x, 0, 60, 5);
            fill(x, 0, 61, 1);
            fill(x, 1, 60, 47);
        });
        answers(split, "part of 1 of 6 to 47", 1, x -> x.part(0, 1, 61));
        refused(split, "part of 6 of 6 to 47", STATE, x -> x.part(0, 1, 60));
        asked(beside(48, 48), "part of none of 48 to 48", 0, x -> x.part(0, 1, 61));
    }

    private static Supplier<Bookinghouse> oneCalledOff() {
        return after(x -> {
            x.book(0, 7, 1, 1);
            x.callOff(0, 0);
        });
    }

    /** One that waited in house 0 waits in house 3. */
    private static Supplier<Bookinghouse> oneJoined() {
        return after(x -> {
            x.book(0, 7, 1, 1);
            x.join(3, 0);
        });
    }

    /** Four wait in house 0, at 10, 20, 30 and 40; none in house 1, with this clock. */
    private static Supplier<Bookinghouse> fourBeside(int clock) {
        return after(x -> {
            x.series(0, 10, 10, 4, 5, 1);
            x.run(1, clock);
        });
    }

    /** In house 0, with clock 9, one waits at 10; in house 1, with clock 0, one at 8. */
    private static Supplier<Bookinghouse> clocksAhead() {
        return after(x -> {
            x.book(0, 10, 5, 1);
            x.run(0, 9);
            x.book(1, 8, 5, 1);
        });
    }

    /** So many wait in house 1, and so many in house 0, all at 60. */
    private static Supplier<Bookinghouse> beside(int first, int other) {
        return after(x -> {
            fill(x, 1, 60, first);
            fill(x, 0, 60, other);
        });
    }
}
