/** Boundary cases of lateness: promises 23 to 25. */
final class LatenessBoundaries extends Boundaries {
    private static final String FULL =
            "Throws `IllegalStateException` if 12 are told, and this is none of them, and the minutes are not 0";

    LatenessBoundaries(Sentences doc) {
        super(doc);
    }

    @Override
    void holdAll() {
        late();
        lateTimes();
        lateFull();
        lateRefused();
        lateness();
        onTime();
    }

    private void late() {
        hold(23, "`minutes`: 0 to 120", () -> {
            Lastbus x = rich();
            due(0, x.late(5, 0, 0, 120));
            due(120, x.lateness(5, 0, 0));
            due(120, x.late(5, 0, 0, 1));
            due(1, x.late(5, 0, 0, 0));
            due(0, x.lateness(5, 0, 0));
        });
        hold(23, "Tells a trip as late on a day, in place of what was told.", () -> {
            Lastbus x = rich();
            // Also from which call on it was told.
            due(9, x.late(3, 0, 2, 4));
            due(0, x.lateness(3, 0, 1));
            due(4, x.lateness(3, 0, 2));
            due(4, x.late(3, 0, 0, 7));
            due(7, x.lateness(3, 0, 0));
            due(7, x.lateness(3, 0, 2));
            due(2, x.onTime());
        });
        hold(23, "Returns the minutes told ahead of it, 0 for none.", () -> {
            Lastbus x = rich();
            due(0, x.late(2, 0, 0, 5));
            due(5, x.late(2, 0, 2, 6));
            due(0, x.late(2, 1, 0, 7));
            due(0, x.late(1, 0, 0, 0));
            due(9, x.late(3, 0, 0, 0));
            due(0, x.late(3, 0, 0, 0));
        });
        hold(23, "one for each trip and day; 0 minutes take it away.", () -> {
            Lastbus x = rich();
            x.late(3, 1, 0, 20);
            x.late(4, 0, 0, 30);
            due(9, x.lateness(3, 0, 1));
            due(20, x.lateness(3, 1, 0));
            due(30, x.lateness(4, 0, 0));
            due(10, x.lateness(4, 1, 0));
            // By any call of the trip.
            due(9, x.late(3, 0, 2, 0));
            due(0, x.lateness(3, 0, 2));
            due(3, x.onTime());
        });
        hold(23, "0 minutes take it away.", () -> {
            // What was told behind it stays: its day, trip, call and minutes.
            Lastbus x = daily(0, 0);
            ride(x, 0, 100, 1, 110, 0, 120);
            ride(x, 0, 200, 1, 210, 0, 220);
            x.late(3, 0, 0, 5);
            x.late(4, 0, 1, 6);
            x.late(5, 1, 2, 7);
            due(5, x.late(3, 0, 0, 0));
            due(0, x.lateness(3, 0, 0));
            due(0, x.lateness(4, 0, 0));
            due(6, x.lateness(4, 0, 1));
            due(0, x.lateness(5, 1, 1));
            due(7, x.lateness(5, 1, 2));
            due(0, x.lateness(5, 0, 2));
            due(6, x.late(4, 0, 0, 0));
            due(0, x.lateness(5, 1, 1));
            due(7, x.lateness(5, 1, 2));
            due(1, x.onTime());
        });
        hold(23, "Days are 0 to 27.", () -> {
            Lastbus x = rich();
            due(0, x.late(0, 0, 0, 5));
            due(0, x.late(27, 0, 0, 6));
            due(5, x.lateness(0, 0, 0));
            due(6, x.lateness(27, 0, 0));
        });
    }

    private void lateTimes() {
        hold(23, "the departure of that call, and all times of later calls, are so much later on this day.", () -> {
            Lastbus x = daily(0, 0, 0);
            ride(x, 0, 100);
            x.call(0, 1, 110, 112);
            x.call(0, 2, 120, 120);
            x.late(3, 0, 1, 60);
            // The departure at the call 1, not its arrival.
            due(110, x.earliest(0, 1, 3, 100));
            due(180, x.earliest(0, 2, 3, 100));
            due(180, x.earliest(1, 2, 3, 172));
            due(120, x.earliest(1, 2, 4, 112));
            due(1440 + 120, x.earliest(1, 2, 3, 173));
            x.late(3, 0, 2, 60);
            due(120, x.earliest(0, 2, 3, 100));
            x.late(3, 0, 0, 60);
            due(170, x.earliest(0, 1, 3, 160));
        });
        hold(23, "the departure of that call, and all times of later calls, are so much later on this day.", () -> {
            Lastbus x = daily(0, 0);
            ride(x, 0, 2878, 1, 2879);
            x.late(3, 0, 0, 120);
            // A time can be above 2879 by lateness, and is that of the next days too.
            due(2879 + 120, x.earliest(0, 1, 3, 1439));
            due(2879 + 120 - 1440, x.earliest(0, 1, 4, 1439));
            due(1439, x.earliest(0, 1, 5, 1438));
            due(2879, x.earliest(0, 1, 5, 1439));
        });
    }

    private void lateFull() {
        hold(23, "At most 12 such are told at a time", () -> {
            Lastbus x = rich();
            for (int day = 10; day < 20; day++) {
                due(0, x.late(day, 3, 0, day));
            }
            thrown(STATE, () -> x.late(20, 3, 0, 1));
            due(12, x.onTime());
            due(0, x.late(20, 3, 0, 1));
        });
        hold(23, FULL, () -> {
            refused(STATE, Tables::full, x -> x.late(12, 0, 0, 1));
            refused(STATE, Tables::full, x -> x.late(0, 1, 0, 120));
            refused(STATE, Tables::full, x -> x.late(27, 23, 0, 1));
        });
        hold(23, "and this is none of them", () -> {
            Lastbus x = full();
            due(1, x.late(0, 0, 7, 120));
            due(12, x.late(11, 0, 0, 1));
            due(120, x.lateness(0, 0, 7));
            due(0, x.lateness(0, 0, 6));
            due(12, x.onTime());
        });
        hold(23, "and the minutes are not 0", () -> {
            Lastbus x = full();
            due(0, x.late(12, 0, 0, 0));
            due(0, x.late(0, 1, 0, 0));
            due(6, x.late(5, 0, 3, 0));
            // There is room for one more then.
            due(0, x.late(0, 1, 0, 120));
            thrown(STATE, () -> x.late(5, 0, 0, 1));
            due(12, x.onTime());
        });
    }

    private void lateRefused() {
        hold(23, NO_CALL, () -> {
            each(outside(0, 3), trip -> refused(INDEX, x -> x.late(3, trip, 0, 5)));
            each(outside(0, 2), call -> refused(INDEX, x -> x.late(3, 0, call, 5)));
            refused(INDEX, x -> x.late(3, 3, 1, 0));
            refused(INDEX, Tables::full, x -> x.late(3, 0, 8, 0));
        });
        hold(23, OUT_OF_RANGE, () -> {
            each(outside(0, 120), minutes -> refused(ARGUMENT, x -> x.late(3, 0, 1, minutes)));
            each(outside(0, 27), day -> refused(ARGUMENT, x -> x.late(day, 0, 1, 5)));
            each(outside(0, 27), day -> refused(ARGUMENT, x -> x.late(day, 0, 1, 0)));
        });
        hold(23, ORDER, () -> {
            refused(INDEX, x -> x.late(28, 4, 0, 121));
            refused(INDEX, x -> x.late(3, 0, 3, -1));
            refused(INDEX, Tables::full, x -> x.late(12, 24, 0, 1));
            refused(INDEX, Tables::full, x -> x.late(12, 0, 8, 1));
            refused(ARGUMENT, Tables::full, x -> x.late(12, 0, 0, 121));
            refused(ARGUMENT, Tables::full, x -> x.late(28, 0, 0, 1));
        });
    }

    private void lateness() {
        hold(24, "Returns the lateness of the departure of a call.", () -> {
            Lastbus x = rich();
            due(0, x.lateness(3, 0, 0));
            due(9, x.lateness(3, 0, 1));
            due(9, x.lateness(3, 0, 2));
            due(0, x.lateness(2, 0, 1));
            due(0, x.lateness(3, 1, 0));
            due(10, x.lateness(4, 1, 1));
        });
        hold(24, "Returns the lateness of the departure of a call.", () -> {
            // Also of the last call, and of the only one.
            Lastbus x = rich();
            x.late(0, 0, 2, 1);
            due(0, x.lateness(0, 0, 1));
            due(1, x.lateness(0, 0, 2));
            x.late(27, 3, 0, 120);
            due(120, x.lateness(27, 3, 0));
        });
        hold(24, NO_CALL, () -> {
            each(outside(0, 3), trip -> refused(INDEX, x -> x.lateness(3, trip, 0)));
            each(outside(0, 2), call -> refused(INDEX, x -> x.lateness(3, 0, call)));
            refused(INDEX, x -> x.lateness(3, 3, 1));
            refused(INDEX, Tables::full, x -> x.lateness(3, 0, 8));
        });
        hold(24, NO_DAY, () -> each(outside(0, 27), day -> refused(ARGUMENT, x -> x.lateness(day, 0, 0))));
        hold(24, ORDER, () -> {
            refused(INDEX, x -> x.lateness(28, 4, 0));
            refused(INDEX, x -> x.lateness(-1, 0, 3));
        });
    }

    private void onTime() {
        hold(25, "Takes all lateness away.", () -> {
            Lastbus x = full();
            due(12, x.onTime());
            for (int day = 0; day < 12; day++) {
                due(0, x.lateness(day, 0, 0));
            }
            due(0, x.late(0, 0, 0, 5));
            due(1, x.onTime());
        });
        hold(25, "Returns how many were told.", () -> {
            Lastbus x = rich();
            due(2, x.onTime());
            due(0, x.onTime());
            due(0, new Lastbus().onTime());
        });
    }
}
