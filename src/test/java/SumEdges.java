import java.math.BigInteger;
import java.util.function.Supplier;

/** The sentences of the promises 27 to 32: what is summed up of a house, and of all houses. */
final class SumEdges extends Edges {
    SumEdges(Check check) {
        super(check);
    }

    void all() {
        each(this::load, this::mean, this::share, this::isQuiet, this::checksum, this::checksumOfCrowds,
                this::isSound);
    }

    private void load() {
        promise(27);
        sentence("Returns the sum of the crowds of a house at all times");
        asked(Edges::crowded, "load", 59, x -> x.load(0));
        asked(Edges::crowded, "load of another house", 0, x -> x.load(1));
        asked(Edges::fourCame, "load of four", 20, x -> x.load(0));
        asked(after(x -> {
            x.series(0, 10, 10, 4, 5, 1);
            x.run(0, 40);
            x.back(0, 20);
        }), "load of two that are left", 10, x -> x.load(0));
        houses("load", (x, h) -> x.load(h), (x, h) -> x.load(h), 5, 12, 21, 32);
        sentence("Returns the sum");
        asked(Bookinghouse::new, "load of a new house", 0, x -> x.load(0));
        asked(Edges::fourWait, "load of those that wait", 0, x -> x.load(0));
        asked(Edges::neverBusy, "load of span 0", 0, x -> x.load(0));
        asked(after(x -> {
            x.book(0, 0, 1, 1);
            x.next(0);
        }), "the least load", 1, x -> x.load(0));
        asked(Edges::all120, "the greatest load", 540000, x -> x.load(0));
    }

    private void mean() {
        promise(28);
        sentence("Returns the mean crowd of the busy times of a house");
        meanIs(Edges::crowded, 59.0 / 16.0);
        meanIs(Edges::fourCame, 1.0);
        meanIs(Edges::onAtTheEnd, 2.0);
        houses("mean", (x, h) -> (long) x.mean(h), (x, h) -> (long) x.mean(h), 1, 2, 3, 4);
        sentence("Returns the load divided by how many times are busy, both converted to double");
        meanIs(after(x -> {
            x.book(0, 3, 3, 1);
            x.book(0, 3, 1, 1);
            x.run(0, 3);
        }), 4.0 / 3.0);
        meanIs(after(x -> {
            x.book(0, 3, 500, 1);
            x.book(0, 9000, 499, 9);
            x.run(0, 9999);
        }), 4991.0 / 999.0);
        meanIs(Edges::spans120, 1.0);
        meanIs(Edges::all120, 1080.0);
        sentence("Throws `ArithmeticException` if none is");
        refused(Bookinghouse::new, "mean of a new house", ARITHMETIC, x -> x.mean(0));
        refused(Edges::fourWait, "mean of those that wait", ARITHMETIC, x -> x.mean(0));
        refused(Edges::neverBusy, "mean of span 0", ARITHMETIC, x -> x.mean(0));
        refused(Edges::crowded, "mean of another house", ARITHMETIC, x -> x.mean(1));
        refused(after(x -> {
            x.book(0, 3, 3, 1);
            x.next(0);
            x.back(0, 2);
        }), "mean of one that was brought back", ARITHMETIC, x -> x.mean(0));
    }

    private void meanIs(Supplier<Bookinghouse> state, double due) {
        check.same("mean", state.get().mean(0), due);
    }

    private void share() {
        promise(29);
        sentence("Returns the share of those that came, of those that came in a house or wait in it");
        shareIs(cameOf(3, 1), 1.0f / 3.0f);
        shareIs(cameOf(3, 2), 2.0f / 3.0f);
        shareIs(cameOf(48, 47), 47.0f / 48.0f);
        shareIs(Edges::neverBusy, 2.0f / 3.0f);
        houses("twice the share", (x, h) -> (long) (2 * x.share(h)), (x, h) -> (long) x.share(h), 1, 1, 1, 1);
        sentence("Returns how many came divided by how many came or wait, both converted to float");
        shareIs(cameOf(3, 0), 0.0f);
        shareIs(cameOf(3, 3), 1.0f);
        shareIs(cameOf(1, 0), 0.0f);
        shareIs(cameOf(1, 1), 1.0f);
        shareIs(cameOf(7, 1), 1.0f / 7.0f);
        shareIs(Edges::all120, 1.0f);
        shareIs(after(x -> {
            for (int i = 0; i < 7; i++) {
                x.series(0, 9999, 0, 12, 1, 1);
                x.run(0, 9999);
            }
            fill(x, 0, 9999, 36);
        }), 84.0f / 120.0f);
        shareIs(after(x -> {
            x.series(0, 10, 10, 4, 5, 1);
            x.callOff(0, 3);
            x.next(0);
        }), 1.0f / 3.0f);
        sentence("Throws `ArithmeticException` if there are none");
        refused(Bookinghouse::new, "share of a new house", ARITHMETIC, x -> x.share(0));
        refused(Edges::crowded, "share of another house", ARITHMETIC, x -> x.share(1));
        refused(after(x -> {
            x.book(0, 10, 5, 1);
            x.callOff(0, 0);
        }), "share of one called off", ARITHMETIC, x -> x.share(0));
        refused(after(x -> {
            x.book(0, 10, 5, 1);
            x.join(1, 0);
        }), "share of one that was joined away", ARITHMETIC, x -> x.share(0));
    }

    private void shareIs(Supplier<Bookinghouse> state, float due) {
        check.same("share", (double) state.get().share(0), (double) due);
    }

    /** So many were made in house 0, and so many of these came. */
    private static Supplier<Bookinghouse> cameOf(int made, int came) {
        return after(x -> {
            fill(x, 0, 60, made);
            for (int i = 0; i < came; i++) {
                x.next(0);
            }
        });
    }

    private void isQuiet() {
        promise(30);
        sentence("Tells whether none waits in a house, and the crowd is 0 at its clock and behind it");
        quiet(Bookinghouse::new, "a new house", true);
        quiet(Edges::fourWait, "a house where four wait", false);
        quiet(oneCameAt(14, 0), "at the last time of the last one", false);
        quiet(oneCameAt(15, 0), "right behind the last one", true);
        quiet(oneCameAt(10, 0), "at the first time of the last one", false);
        quiet(oneCameAt(50, 0), "long behind the last one", true);
        quiet(oneCameAt(50, 9999), "where one waits at 9999", false);
        quiet(oneCameAt(50, 50), "where one waits at the clock", false);
        quiet(Edges::onAtTheEnd, "at the last clock, one is on", false);
        sentence("Returns whether it is so");
        quiet(after(x -> {
            x.book(0, 9999, 0, 9);
            x.next(0);
        }), "at the last clock, none is on", true);
        quiet(after(x -> {
            x.book(0, 9499, 500, 9);
            x.run(0, 9999);
        }), "at the last clock, one has just ended", true);
        quiet(after(x -> {
            x.book(0, 9499, 500, 9);
            x.run(0, 9998);
        }), "one ahead of the last clock, one is on", false);
        quiet(after(x -> {
            x.book(0, 5, 10, 9);
            x.book(0, 10, 2, 9);
            x.run(0, 13);
        }), "where the earlier one ends later", false);
        quiet(after(x -> {
            x.book(0, 0, 0, 1);
            x.book(1, 0, 9, 1);
        }), "where one of span 0 waits", false);
        quiet(after(x -> {
            x.book(0, 0, 0, 1);
            x.next(0);
            x.book(1, 0, 9, 1);
            x.next(1);
        }), "where one of span 0 came", true);
        quiet(after(x -> {
            x.book(0, 10, 5, 1);
            x.next(0);
            x.back(0, 9);
            x.callOff(0, 0);
        }), "where one was brought back and called off", true);
        quiet(after(x -> {
            x.book(0, 10, 5, 1);
            x.join(1, 0);
        }), "where one was joined away", true);
        houses("isQuiet", (x, h) -> number(x.isQuiet(h)), (x, h) -> number(x.isQuiet(h)), 0, 0, 0, 0);
        sentence("`house`: 0 to 3");
        for (int h = 0; h < 4; h++) {
            int house = h;
            asked(Bookinghouse::new, "isQuiet of house " + h, 1, x -> number(x.isQuiet(house)));
        }
    }

    private void quiet(Supplier<Bookinghouse> state, String what, boolean due) {
        asked(state, "isQuiet " + what, number(due), x -> number(x.isQuiet(0)));
    }

    /** In house 0 one came at 10 with span 5, and the clock is this one; one waits at a time above 0. */
    private static Supplier<Bookinghouse> oneCameAt(int clock, int time) {
        return after(x -> {
            x.book(0, 10, 5, 1);
            x.run(0, clock);
            if (time > 0) {
                x.book(0, time, 5, 1);
            }
        });
    }

    private static long sumOf(long... parts) {
        BigInteger sum = BigInteger.valueOf(7);
        for (long part : parts) {
            sum = sum.multiply(BigInteger.valueOf(31)).add(BigInteger.valueOf(part));
        }
        return sum.longValue();
    }

    private void checksum() {
        promise(31);
        sentence("Returns a sum over all houses, a long that goes round");
        asked(Bookinghouse::new, "checksum of a new object", 5513639486519848327L, x -> x.checksum());
        asked(after(x -> x.run(3, 9999)), "checksum with the last clock 9999",
                sumOf(0, 0, 0, 0, 0, 0, 0, 0, 0, 9999, 0, 0), x -> x.checksum());
        asked(after(x -> x.run(0, 9999)), "checksum that goes round", sumOf(9999, 0, 0, 0, 0, 0, 0, 0, 0, 0, 0, 0),
                x -> x.checksum());
        asked(after(x -> {
            for (int house = 0; house < 4; house++) {
                x.book(house, house, 0, 1);
            }
        }), "checksum of one in each house", sumOf(0, 1, 0, 0, 0, 1, 1, 0, 0, 1, 2, 0, 0, 1, 3, 0), x -> x.checksum());
        long[] all = new long[12 + 120];
        for (int i = 0; i < 48; i++) {
            all[2 + i] = i;
            all[53 + i] = 48 + i;
        }
        for (int i = 0; i < 24; i++) {
            all[104 + i] = 96 + i;
        }
        all[1] = 48;
        all[52] = 48;
        all[103] = 24;
        asked(after(x -> fillAll(x, 120)), "checksum of 120 that wait", sumOf(all), x -> x.checksum());
    }

    private void checksumOfCrowds() {
        promise(31);
        sentence("Returns 7 at first; then, of each house by number, its clock, how many wait, the numbers of these"
                + " in their sequence, how many came, the numbers of these as they came, and of each time at which"
                + " the crowd changes, the times rising, the time, and the change; for each 31 times the sum so far,"
                + " plus it");
        Bookinghouse x = new Bookinghouse();
        x.book(1, 20, 5, 3);
        x.book(1, 10, 10, 3);
        x.book(1, 30, 5, 4);
        x.book(3, 5, 0, 9);
        x.book(3, 6, 1, 9);
        same("checksum of those that wait", x.checksum(), sumOf(0, 0, 0, 0, 3, 1, 0, 2, 0, 0, 0, 0, 0, 2, 3, 4, 0));
        x.run(1, 25);
        x.next(3);
        same("checksum without a change of 0", x.checksum(),
                sumOf(0, 0, 0, 25, 1, 2, 2, 1, 0, 10, 3, 25, -3, 0, 0, 0, 5, 1, 4, 1, 3));
        x.run(1, 30);
        same("checksum of changes below 0", x.checksum(),
                sumOf(0, 0, 0, 30, 0, 3, 1, 0, 2, 10, 3, 25, -3, 30, 4, 35, -4, 0, 0, 0, 5, 1, 4, 1, 3));
        x.back(1, 10);
        same("checksum behind back", x.checksum(),
                sumOf(0, 0, 0, 10, 2, 0, 2, 1, 1, 10, 3, 20, -3, 0, 0, 0, 5, 1, 4, 1, 3));
        x.put(1, 0, 30);
        x.callOff(3, 4);
        same("checksum behind put and callOff", x.checksum(),
                sumOf(0, 0, 0, 10, 2, 0, 2, 1, 1, 10, 3, 20, -3, 0, 0, 0, 5, 0, 1, 3));
        asked(Edges::onAtTheEnd, "checksum of the last times",
                sumOf(9999, 0, 1, 0, 9999, 2, 10499, -2, 0, 0, 0, 0, 0, 0, 0, 0, 0), y -> y.checksum());
        asked(Edges::neverBusy, "checksum of span 0",
                sumOf(20, 1, 2, 2, 0, 1, 10, 0, 1, 3, 10, 9, 15, -9, 0, 0, 0, 0, 0, 0), y -> y.checksum());
        asked(after(y -> {
            y.book(0, 0, 1, 9);
            y.next(0);
        }), "checksum of a change at 0", sumOf(0, 0, 1, 0, 0, 9, 1, -9, 0, 0, 0, 0, 0, 0, 0, 0, 0), y -> y.checksum());
    }

    private void isSound() {
        promise(32);
        sentence("Tells whether what is told first holds of all that there is now, looked at by the way of the"
                + " library: whether each booking is one of the three things, once; those that wait stand in their"
                + " sequence, also those of two houses put together; the crowd is that of those that came");
        sound(Bookinghouse::new);
        sound(Edges::ready);
        sound(Edges::fourWait);
        sound(Edges::fourCame);
        sound(Edges::crowded);
        sound(Edges::neverBusy);
        sound(Edges::onAtTheEnd);
        sentence("Returns whether it holds; always true");
        sound(Edges::all120);
        sound(Edges::spans120);
        sound(after(x -> fillAll(x, 120)));
        sound(after(x -> {
            fillAll(x, 120);
            x.run(0, 60);
            x.join(0, 1);
            x.put(0, 60, 61);
            x.callOffAll(2, 0, 70);
            x.part(0, 3, 61);
            x.next(3);
            x.back(3, 0);
        }));
        sound(after(x -> {
            x.series(0, 9999, 0, 12, 500, 9);
            x.run(0, 9999);
            x.back(0, 0);
            x.callOffAll(0, LOW, HIGH);
        }));
    }

    private void sound(Supplier<Bookinghouse> state) {
        asked(state, "isSound", 1, x -> number(x.isSound()));
    }
}
