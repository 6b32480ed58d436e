import java.lang.reflect.Field;

/** isSound looks at the state: once that is spoiled from outside, which no call can do, it says so. */
public final class SoundTest {
    private static final Check CHECK = new Check();

    public static void main(String[] args) throws ReflectiveOperationException {
        spoiled("a booking that waits is said to have come", "ledger.states", 3, 1);
        spoiled("a booking that came is said to wait", "ledger.states", 0, 0);
        spoiled("a booking that is called off is said to wait", "ledger.states", 5, 0);
        spoiled("a booking is none of the three things", "ledger.states", 5, 3);
        spoiled("a booking waits in another house than is said", "ledger.homes", 3, 2);
        spoiled("a booking came in another house than is said", "ledger.homes", 0, 2);
        spoiled("a booking that waits has a time below the clock", "ledger.times", 2, 19);
        spoiled("those that wait do not stand in their sequence", "ledger.times", 2, 99);
        spoiled("a booking that came has a time above the clock", "ledger.times", 1, 21);
        spoiled("a booking waits twice", "houses.0.queue", 1, 2);
        spoiled("a booking came twice", "houses.0.past", 1, 0);
        spoiled("the crowd changes at another time", "houses.0.crowd.times", 0, 9);
        spoiled("the crowd changes by something else", "houses.0.crowd.changes", 1, 1);
        spoiled("the weight of a booking that came is another one", "ledger.weights", 0, 9);
        spoiled("the span of a booking that came is another one", "ledger.spans", 0, 9);
        spoiled("the last number of a crowd's changes is another one", "houses.0.crowd.changes", 3, -8);
        CHECK.end();
    }

    /** In house 0 the bookings 0 and 1 came, 2 to 4 wait, and 5 is called off; in house 1, 6 waits. */
    private static Bookinghouse mixed() {
        Bookinghouse x = new Bookinghouse();
        x.series(0, 10, 10, 6, 15, 2);
        x.book(1, 35, 5, 5);
        x.run(0, 20);
        x.callOff(0, 5);
        return x;
    }

    private static void spoiled(String what, String path, int place, int number)
            throws ReflectiveOperationException {
        Bookinghouse x = mixed();
        CHECK.yes("it is sound at first", x.isSound());
        Object found = x;
        for (String step : path.split("\\.")) {
            found = Character.isDigit(step.charAt(0)) ? ((Object[]) found)[step.charAt(0) - '0'] : of(found, step);
        }
        int[] items = (int[]) of(found, "items");
        CHECK.yes("that it is another number: " + what, items[place] != number);
        items[place] = number;
        CHECK.yes("that it is not sound when " + what, !x.isSound());
    }

    private static Object of(Object owner, String name) throws ReflectiveOperationException {
        Field field = owner.getClass().getDeclaredField(name);
        field.setAccessible(true);
        return field.get(owner);
    }
}
