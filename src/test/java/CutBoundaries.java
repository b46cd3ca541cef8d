/** Boundary cases of cuts, vehicles and shifts: promises 44 to 49. */
final class CutBoundaries extends Boundaries {
    private static final String CUT = "A stop that is cut is as if it was not there: nobody gets on or off, and told walks to "
            + "it are not there; runs pass it.";
    private static final String LOST = "Returns of how many pairs of two unlike other stops, in both orders, there is a way "
            + "from the minute 0, but none then.";
    private static final String VEHICLE = "A vehicle can take a trip behind another one on a day if that one ends at the stop "
            + "where it begins, and its arrival there is at least 5 minutes ahead of the departure; lateness does not count, nor "
            + "other days.";
    private static final String ONE_CALL = "A trip of one call begins and ends at it, at its departure.";
    private static final String GAINS = "Returns of how many pairs of two unlike stops, in both orders, the earliest arrival "
            + "from the minute is earlier then, or there is a way just then.";
    private static final String LOSES =
            "Returns of how many pairs the earliest arrival is later then, or there is no way just then.";
    private static final String SOME_TIME =
            "Throws `IllegalArgumentException` if a number is out of range, or some time would be";

    private interface Count {
        int ask(Lastbus x, int day);
    }

    private interface Shift {
        int ask(Lastbus x, int trip, int minutes, int day, int minute);
    }

    CutBoundaries(Sentences doc) {
        super(doc);
    }

    @Override
    void holdAll() {
        cut();
        lost();
        lostAtZero();
        lostRefused();
        bridges();
        holdVehicles(46, (x, day) -> x.vehicles(day));
        holdVehicles(47, (x, day) -> x.vehiclesByMatching(day));
        vehiclesFound();
        gains();
        loses();
        holdShift(48, (x, trip, minutes, day, minute) -> x.gains(trip, minutes, day, minute));
        holdShift(49, (x, trip, minutes, day, minute) -> x.loses(trip, minutes, day, minute));
    }

    private void cut() {
        hold(44, CUT, () -> {
            // Nobody changes at it; but who stays in the run passes it.
            Lastbus x = onDay(3, 0, 0, 0);
            ride(x, 0, 100, 1, 110);
            ride(x, 1, 110, 2, 120);
            due(1, x.lost(1, 3));
            ride(x, 0, 200, 1, 210, 2, 220);
            due(0, x.lost(1, 3));
            due(0, x.lost(0, 3));
            due(0, x.lost(2, 3));
        });
        hold(44, CUT, () -> {
            // Told walks to it are not there: neither for the way there nor behind it.
            Lastbus x = stops(0, 0, 0);
            x.walk(0, 1, 1);
            x.walk(1, 2, 1);
            due(2, x.lost(1, 0));
            due(0, x.lost(0, 0));
            x.walk(0, 2, 60);
            due(0, x.lost(1, 0));
            due(2, x.walkTime(0, 2));
        });
        hold(44, CUT, () -> {
            // A ride and a walk: to get on behind the walk, or to walk from where one got off.
            Lastbus x = onDay(3, 0, 0, 0, 0);
            x.walk(0, 1, 5);
            ride(x, 1, 100, 2, 110);
            x.walk(2, 3, 5);
            due(2, x.lost(1, 3));
            due(2, x.lost(2, 3));
            due(0, x.lost(0, 3));
            due(0, x.lost(3, 3));
            due(2, x.lost(2, 2));
            due(0, x.lost(2, 4));
        });
    }

    /** Twelve stops, with a walk of 30 minutes from one of them to each other one. */
    private static Lastbus star(int middle) {
        Lastbus x = stops(0, 0, 0, 0, 0, 0, 0, 0, 0, 0, 0, 0);
        for (int stop = 0; stop < 12; stop++) {
            if (stop != middle) {
                x.walk(middle, stop, 30);
            }
        }
        return x;
    }

    private void lost() {
        hold(44, LOST, () -> {
            // Pairs with the stop itself do not count; of one stop, or two, none can be lost.
            due(0, stops(0).lost(0, 0));
            Lastbus x = stops(0, 0);
            x.walk(0, 1, 1);
            due(0, x.lost(0, 0));
            due(0, x.lost(1, 27));
        });
        hold(44, LOST, () -> {
            Lastbus x = star(11);
            due(110, x.lost(11, 3));
            due(0, x.lost(0, 3));
            due(60, x.walkTime(0, 10));
            due(110, star(0).lost(0, 3));
        });
        hold(44, "there is a way from the minute 0, but none then.", () -> {
            Lastbus x = onDay(3, 0, 0, 0);
            ride(x, 0, 1440, 1, 1450);
            ride(x, 1, 1450, 2, 1460);
            due(1, x.lost(1, 4));
            due(1, x.lost(1, 3));
            due(1, x.lost(1, 2));
            due(0, x.lost(1, 5));
            due(0, x.lost(1, 1));
            x.shift(0, -1);
            due(0, x.lost(1, 4));
            due(1, x.lost(1, 3));
        });
    }

    private void lostAtZero() {
        hold(44, "there is a way from the minute 0, but none then.", () -> {
            // What is left then is a way that leaves at 0: none is lost.
            Lastbus x = onDay(3, 0, 0, 0);
            ride(x, 0, 0, 2, 10);
            ride(x, 0, 100, 1, 110);
            ride(x, 1, 110, 2, 120);
            due(0, x.lost(1, 3));
            due(0, x.bridges(3));
            x.late(3, 0, 0, 1);
            due(0, x.lost(1, 3));
        });
        hold(45, "Returns the stops by whose cut some way is lost.", () -> {
            // A way that leaves at 0 can be lost.
            Lastbus x = onDay(3, 0, 0, 0);
            ride(x, 0, 0, 1, 10);
            ride(x, 1, 10, 2, 20);
            due(2, x.bridges(3));
            due(1, x.lost(1, 3));
        });
    }

    private void lostRefused() {
        hold(44, NO_STOP, () -> {
            each(outside(0, 4), stop -> refused(INDEX, x -> x.lost(stop, 3)));
            refused(INDEX, Tables::full, x -> x.lost(12, 3));
            refused(INDEX, Lastbus::new, x -> x.lost(0, 0));
        });
        hold(44, NO_DAY, () -> each(outside(0, 27), day -> refused(ARGUMENT, x -> x.lost(0, day))));
        hold(44, ORDER, () -> {
            refused(INDEX, x -> x.lost(5, 28));
            refused(INDEX, x -> x.lost(-1, -1));
        });
    }

    private void bridges() {
        hold(45, "Returns the sum of 2 to the power of each.", () -> {
            due(0, new Lastbus().bridges(0));
            due(0, stops(0).bridges(27));
            Lastbus x = stops(0, 0, 0, 0, 0, 0, 0, 0, 0, 0, 0, 0);
            for (int stop = 0; stop < 11; stop++) {
                x.walk(stop, stop + 1, 60);
            }
            due(2046, x.bridges(0));
            x.walk(0, 11, 60);
            due(0, x.bridges(0));
            x.walk(0, 1, 0);
            due(4092, x.bridges(0));
            // The first stop, and the last one.
            due(1, star(0).bridges(0));
            due(2048, star(11).bridges(27));
        });
        hold(45, "Returns the stops by whose cut some way is lost.", () -> {
            Lastbus x = onDay(3, 0, 0, 0, 0);
            ride(x, 0, 100, 1, 110);
            ride(x, 1, 110, 2, 120);
            due(2, x.bridges(3));
            due(0, x.bridges(4));
            ride(x, 2, 120, 3, 130);
            due(6, x.bridges(3));
            for (int stop = 0; stop < 4; stop++) {
                due((6 >> stop & 1) == 1, x.lost(stop, 3) > 0);
            }
        });
        hold(45, NO_DAY, () -> {
            each(outside(0, 27), day -> refused(ARGUMENT, x -> x.bridges(day)));
            each(outside(0, 27), day -> refused(ARGUMENT, Lastbus::new, x -> x.bridges(day)));
        });
    }

    private void holdVehicles(int promise, Count count) {
        vehicleMinutes(promise, count);
        vehicleDays(promise, count);
        vehicleOfOneCall(promise, count);
        manyVehicles(promise, count);
        vehiclesOfOneStop(promise, count);
        hold(promise, NO_DAY, () -> {
            each(outside(0, 27), day -> refused(ARGUMENT, x -> count.ask(x, day)));
            each(outside(0, 27), day -> refused(ARGUMENT, Lastbus::new, x -> count.ask(x, day)));
        });
    }

    private void vehicleMinutes(int promise, Count count) {
        hold(promise, VEHICLE, () -> {
            Lastbus x = onDay(3, 30, 30, 30);
            ride(x, 0, 100, 1, 110);
            ride(x, 1, 115, 0, 120);
            due(1, count.ask(x, 3));
            x.shift(1, -1);
            due(2, count.ask(x, 3));
            x.shift(1, 60);
            due(1, count.ask(x, 3));
            // At another stop it cannot, not even by a walk.
            ride(x, 2, 500, 1, 510);
            x.walk(0, 2, 1);
            due(2, count.ask(x, 3));
        });
        hold(promise, "its arrival there is at least 5 minutes ahead of the departure", () -> {
            // Not the departure that is told for the last call.
            Lastbus x = onDay(3, 0, 0);
            x.trip(0, 0, 100);
            x.call(0, 1, 110, 2879);
            ride(x, 1, 115, 0, 120);
            due(1, count.ask(x, 3));
        });
    }

    private void vehicleDays(int promise, Count count) {
        hold(promise, "lateness does not count, nor other days.", () -> {
            Lastbus x = daily(0, 0);
            ride(x, 0, 100, 1, 110);
            ride(x, 1, 115, 0, 120);
            x.late(3, 0, 0, 120);
            due(1, count.ask(x, 3));
            x.shift(1, -1);
            x.late(3, 1, 0, 120);
            due(2, count.ask(x, 3));
        });
        hold(promise, "lateness does not count, nor other days.", () -> {
            // The trip of the day ahead would end in time; and behind midnight a trip is still one of its day.
            Lastbus x = daily(0, 0);
            x.service();
            x.putDay(1, 2, true);
            x.trip(1, 0, 1440);
            x.call(0, 1, 1450, 1450);
            ride(x, 1, 2000, 0, 2010);
            due(1, count.ask(x, 3));
            due(1, count.ask(x, 2));
            due(1, count.ask(x, 1));
            x.shift(0, 60);
            ride(x, 0, 100, 1, 110);
            due(2, count.ask(x, 2));
            due(1, count.ask(x, 27));
        });
        hold(promise, "A trip runs on the days of its service.", () -> {
            due(0, count.ask(new Lastbus(), 0));
            due(2, count.ask(rich(), 3));
            due(3, count.ask(rich(), 4));
            Lastbus x = rich();
            x.week(2, 127, 0, 27);
            due(3, count.ask(x, 4));
        });
    }

    private void vehicleOfOneCall(int promise, Count count) {
        hold(promise, ONE_CALL, () -> {
            Lastbus x = onDay(3, 0, 0);
            x.trip(0, 0, 100);
            due(1, count.ask(x, 3));
            x.trip(0, 0, 105);
            due(1, count.ask(x, 3));
            x.trip(0, 0, 109);
            due(2, count.ask(x, 3));
            x.trip(0, 0, 100);
            due(2, count.ask(x, 3));
            x.trip(0, 1, 200);
            due(3, count.ask(x, 3));
        });
        hold(promise, ONE_CALL, () -> {
            Lastbus x = onDay(3, 0, 0);
            x.trip(0, 0, 0);
            ride(x, 0, 5, 1, 2874);
            x.trip(0, 1, 2879);
            due(1, count.ask(x, 3));
        });
    }

    private void manyVehicles(int promise, Count count) {
        hold(promise, "At most 24 trips are numbered from 0", () -> {
            // All behind one another, told from the last one; then all at once.
            Lastbus x = onDay(3, 0, 0);
            for (int trip = 23; trip >= 0; trip--) {
                ride(x, trip % 2, 100 + 15 * trip, 1 - trip % 2, 110 + 15 * trip);
            }
            due(1, count.ask(x, 3));
            Lastbus y = onDay(3, 0, 0);
            for (int trip = 0; trip < 24; trip++) {
                ride(y, 0, 100, 1, 110);
            }
            due(24, count.ask(y, 3));
            due(0, count.ask(y, 4));
        });
        hold(promise, "At most 24 trips are numbered from 0", () -> {
            // Twelve that end and twelve that begin, each of which fits behind those that ended ahead of it.
            Lastbus x = onDay(3, 0, 0);
            for (int trip = 0; trip < 12; trip++) {
                ride(x, 0, 100, 1, 110 + trip);
            }
            for (int trip = 11; trip >= 0; trip--) {
                ride(x, 1, 115 + trip, 0, 200);
            }
            due(12, count.ask(x, 3));
            x.shift(12, -1);
            due(13, count.ask(x, 3));
        });
    }

    private void vehiclesOfOneStop(int promise, Count count) {
        hold(promise, ONE_CALL, () -> {
            // 24 trips that all begin and end at one stop: one behind the other, then two by two at once.
            Lastbus x = onDay(3, 0, 0);
            for (int trip = 0; trip < 24; trip++) {
                x.trip(0, 1, 100 + 5 * trip);
            }
            due(1, count.ask(x, 3));
            Lastbus y = onDay(3, 0);
            for (int trip = 0; trip < 24; trip++) {
                y.trip(0, 0, 100 + 5 * (trip / 2));
            }
            due(2, count.ask(y, 3));
        });
    }

    /** Trips of some minutes that go there or back, at minutes that seem without order. */
    private static Lastbus scattered(int seed) {
        Lastbus x = onDay(3, 0, 0, 0);
        int number = seed;
        for (int trip = 0; trip < 6 + seed % 19; trip++) {
            number = number * 1103515245 + 12345;
            int from = number >>> 16 & 1;
            int departure = 100 + (number >>> 17) % 60;
            ride(x, from, departure, 1 - from, departure + 1 + (number >>> 24) % 30);
        }
        return x;
    }

    private void vehiclesFound() {
        hold(46, "Returns the fewest vehicles for the trips of a day", () -> {
            // The vehicle that comes first may not be taken from the trip that only it can take.
            Lastbus x = onDay(3, 0, 0);
            ride(x, 0, 0, 1, 20);
            ride(x, 0, 0, 1, 10);
            ride(x, 1, 15, 0, 40);
            ride(x, 1, 25, 0, 41);
            due(2, x.vehicles(3));
        });
        hold(47, "Returns the same, found by the greatest number of trips that can each be put behind one of their own.", () -> {
            Lastbus x = onDay(3, 0, 0);
            ride(x, 0, 0, 1, 10);
            ride(x, 0, 0, 1, 20);
            ride(x, 1, 25, 0, 41);
            ride(x, 1, 15, 0, 40);
            due(2, x.vehiclesByMatching(3));
            due(x.vehicles(3), x.vehiclesByMatching(3));
        });
        hold(47, "Returns the same, found by the greatest number of trips that can each be put behind one of their own.", () -> {
            for (int seed = 0; seed < 400; seed++) {
                Lastbus x = scattered(seed);
                due(x.vehicles(3), x.vehiclesByMatching(3));
            }
        });
    }

    /** The trip 0 brings to the stop 1 at 110; from there the trip 1 leaves at 105, on the day 3 alone. */
    private static Lastbus missed() {
        Lastbus x = onDay(3, 0, 0, 0);
        ride(x, 0, 100, 1, 110);
        ride(x, 1, 105, 2, 120);
        return x;
    }

    private void gains() {
        hold(48, GAINS, () -> {
            // A way just then, at a shift of 5; an earlier arrival, at one ahead.
            due(0, missed().gains(1, 4, 3, 0));
            due(1, missed().gains(1, 5, 3, 0));
            due(1, missed().gains(1, -1, 3, 0));
            due(0, missed().gains(1, 0, 3, 0));
            due(2, missed().gains(0, -5, 3, 0));
            // From a minute on at which it has left.
            due(0, missed().gains(1, -1, 3, 105));
            due(1, missed().gains(1, 1, 3, 106));
        });
        hold(48, "of two unlike stops, in both orders", () -> {
            Lastbus x = onDay(3, 0, 0);
            ride(x, 0, 100, 1, 110, 0, 120);
            due(2, x.gains(0, -60, 3, 0));
            due(0, x.gains(0, 60, 3, 0));
            due(0, lonely().gains(0, 60, 3, 0));
        });
        hold(48, "Returns who gains if a trip was shifted.", () -> {
            Lastbus x = missed();
            long sum = x.checksum();
            x.gains(1, 60, 3, 0);
            due(sum, x.checksum());
            due(105, x.timeAt(1, 0, false));
            due(120, x.earliest(1, 2, 3, 105));
            // On each of three days, with the lateness of each.
            due(2, missed().gains(0, -5, 2, 1439));
            due(0, missed().gains(0, -5, 4, 0));
            x.late(3, 1, 0, 5);
            due(1, x.gains(1, -1, 3, 0));
            due(1, x.loses(1, -1, 3, 0));
        });
    }

    /** Without two unlike stops nobody gains or loses. */
    private static Lastbus lonely() {
        Lastbus x = onDay(3, 0);
        x.trip(0, 0, 100);
        return x;
    }

    private void loses() {
        hold(49, LOSES, () -> {
            due(1, missed().loses(1, 1, 3, 0));
            due(0, missed().loses(1, -1, 3, 0));
            due(0, missed().loses(1, 0, 3, 0));
            // No way just then: one has left, or the change is missed.
            due(1, missed().loses(1, -1, 3, 105));
            Lastbus x = missed();
            x.shift(1, 5);
            due(1, x.loses(1, -1, 3, 110));
            due(1, x.loses(1, -1, 3, 0));
            due(2, x.loses(0, 1, 3, 0));
            due(2, x.loses(0, -1, 3, 100));
            due(0, x.loses(0, -1, 3, 99));
        });
        hold(49, LOSES, () -> {
            Lastbus x = onDay(3, 0, 0);
            ride(x, 0, 100, 1, 110, 0, 120);
            due(2, x.loses(0, 60, 3, 0));
            due(0, x.loses(0, -40, 3, 0));
            due(0, lonely().loses(0, 60, 3, 0));
            due(100, x.timeAt(0, 0, false));
            due(0, x.loses(0, 60, 3, 111));
            due(0, x.loses(0, 60, 1, 0));
        });
    }

    private void holdShift(int promise, Shift shift) {
        hold(promise, "`minutes`: -60 to 60", () -> {
            Lastbus x = onDay(3, 0, 0);
            ride(x, 0, 60, 1, 2819);
            boolean isGain = promise == 48;
            due(isGain ? 1 : 0, shift.ask(x, 0, -60, 3, 0));
            due(isGain ? 0 : 1, shift.ask(x, 0, 60, 3, 0));
        });
        hold(promise, "`minute`: 0 to 1439", () -> {
            Lastbus x = onDay(3, 0, 0);
            ride(x, 0, 1439, 1, 1445);
            boolean isGain = promise == 48;
            due(isGain ? 0 : 1, shift.ask(x, 0, -1, 3, 1439));
            due(isGain ? 0 : 1, shift.ask(x, 0, 1, 3, 1439));
            due(isGain ? 1 : 0, shift.ask(x, 0, -1, 3, 0));
            // To the day behind: at 0 one can get on just then.
            due(isGain ? 1 : 0, shift.ask(x, 0, 1, 4, 0));
        });
        hold(promise, NO_TRIP, () -> {
            each(outside(0, 3), trip -> refused(INDEX, x -> shift.ask(x, trip, 5, 3, 0)));
            refused(INDEX, Tables::full, x -> shift.ask(x, 24, -5, 3, 0));
            refused(INDEX, Lastbus::new, x -> shift.ask(x, 0, 0, 0, 0));
        });
        hold(promise, SOME_TIME, () -> {
            each(outside(-60, 60), minutes -> refused(ARGUMENT, x -> shift.ask(x, 0, minutes, 3, 0)));
            each(outside(0, 27), day -> refused(ARGUMENT, x -> shift.ask(x, 0, 5, day, 0)));
            each(outside(0, 1439), minute -> refused(ARGUMENT, x -> shift.ask(x, 0, 5, 3, minute)));
        });
        hold(promise, "or some time would be", () -> {
            refused(ARGUMENT, () -> shiftable(59, 70, 80), x -> shift.ask(x, 0, -60, 3, 0));
            refused(ARGUMENT, () -> shiftable(100, 110, 2820), x -> shift.ask(x, 0, 60, 3, 0));
            refused(ARGUMENT, Tables::full, x -> shift.ask(x, 23, 1, 3, 0));
            // Though the trip does not run on any of these days.
            refused(ARGUMENT, Tables::full, x -> shift.ask(x, 5, 60, 27, 1439));
        });
        hold(promise, ORDER, () -> {
            refused(INDEX, x -> shift.ask(x, 4, 61, 3, 0));
            refused(INDEX, x -> shift.ask(x, -1, 5, 28, 1440));
        });
    }

    private static Lastbus shiftable(int departure, int arrival, int end) {
        Lastbus x = daily(0, 0);
        x.trip(0, 0, departure);
        x.call(0, 1, arrival, end);
        return x;
    }
}
