/** Boundary cases of trips and their calls: promises 11 to 17. */
final class TripBoundaries extends Boundaries {
    TripBoundaries(Sentences doc) {
        super(doc);
    }

    @Override
    void holdAll() {
        trip();
        tripRefused();
        call();
        callTimes();
        callRefused();
        tripsAndCalls();
        stopAt();
        timeAt();
        shift();
        shiftRefused();
    }

    private void trip() {
        hold(11, "Adds a trip with one call.", () -> {
            Lastbus x = daily(0, 0);
            due(0, x.trip(0, 1, 77));
            due(1, x.calls(0));
            due(1, x.stopAt(0, 0));
            due(77, x.timeAt(0, 0, false));
        });
        hold(11, "At most 24 trips are numbered from 0, each of a service", () -> {
            Lastbus x = full();
            due(24, x.trips());
            due(11, x.stopAt(23, 0));
            due(2879, x.timeAt(23, 0, false));
            Lastbus y = daily(0);
            for (int trip = 0; trip < 24; trip++) {
                due(trip, y.trip(0, 0, trip));
            }
            due(23, y.timeAt(23, 0, false));
        });
        hold(11, "Times are minutes, 0 to 2879, from the beginning of the day on which the trip runs.", () -> {
            Lastbus x = daily(0);
            x.trip(0, 0, 0);
            x.trip(0, 0, 2879);
            due(0, x.timeAt(0, 0, false));
            due(2879, x.timeAt(1, 0, true));
        });
        hold(11, "A trip runs on the days of its service.", () -> {
            Lastbus x = stops(0, 0);
            x.service();
            ride(x, 0, 100, 1, 110);
            thrown(ELEMENT, () -> x.earliest(0, 1, 3, 0));
            due(0, x.vehicles(3));
            // Also on the days that are told after the trip was added.
            x.putDay(0, 3, true);
            due(110, x.earliest(0, 1, 3, 0));
            due(1, x.vehicles(3));
            x.putDay(0, 3, false);
            thrown(ELEMENT, () -> x.earliest(0, 1, 3, 0));
        });
    }

    private void tripRefused() {
        hold(11, "Throws `IndexOutOfBoundsException` if there is no such service or stop", () -> {
            each(outside(0, 2), service -> refused(INDEX, x -> x.trip(service, 0, 100)));
            each(outside(0, 4), stop -> refused(INDEX, x -> x.trip(0, stop, 100)));
            refused(INDEX, () -> stops(0), x -> x.trip(0, 0, 100));
        });
        hold(11, "Throws `IllegalArgumentException` if the time is out of range", () ->
                each(outside(0, 2879), time -> refused(ARGUMENT, x -> x.trip(0, 0, time))));
        hold(11, "Throws `IllegalStateException` if there are 24 trips", () -> {
            refused(STATE, Tables::full, x -> x.trip(0, 0, 0));
            refused(STATE, Tables::full, x -> x.trip(5, 11, 2879));
        });
        hold(11, ORDER, () -> {
            refused(INDEX, x -> x.trip(3, 0, 2880));
            refused(INDEX, x -> x.trip(0, 5, -1));
            refused(INDEX, Tables::full, x -> x.trip(6, 0, 0));
            refused(INDEX, Tables::full, x -> x.trip(0, 12, 0));
            refused(ARGUMENT, Tables::full, x -> x.trip(0, 0, 2880));
            refused(ARGUMENT, Tables::full, x -> x.trip(0, 0, -1));
        });
    }

    private void call() {
        hold(12, "with 1 to 8 calls, numbered from 0, at stops", () -> {
            Lastbus x = daily(0, 0);
            x.trip(0, 0, 100);
            due(1, x.calls(0));
            for (int call = 1; call < 8; call++) {
                due(call + 1, x.call(0, call % 2, 100 + call, 100 + call));
            }
            due(8, x.calls(0));
            due(1, x.stopAt(0, 7));
            due(107, x.timeAt(0, 7, true));
        });
        hold(12, "no two behind one another at the same one.", () -> {
            Lastbus x = daily(0, 0);
            ride(x, 0, 100, 1, 110);
            thrown(ARGUMENT, () -> x.call(0, 1, 120, 120));
            // The same stop once more, but not the next call.
            due(3, x.call(0, 0, 120, 120));
            thrown(ARGUMENT, () -> x.call(0, 0, 130, 130));
            due(3, x.calls(0));
        });
        hold(12, "or the stop is that of the call ahead", () -> {
            refused(ARGUMENT, x -> x.call(0, 2, 510, 510));
            refused(ARGUMENT, x -> x.call(3, 2, 1440, 1440));
        });
    }

    private void callTimes() {
        hold(12, "an arrival, which is later than the departure of the call ahead", () -> {
            refused(ARGUMENT, x -> x.call(0, 3, 500, 500));
            refused(ARGUMENT, x -> x.call(0, 3, 499, 510));
            due(4, rich().call(0, 3, 501, 501));
            // Later than the departure of the call ahead, not only than its arrival.
            Lastbus x = daily(0, 0);
            ride(x, 0, 100);
            x.call(0, 1, 110, 120);
            thrown(ARGUMENT, () -> x.call(0, 0, 120, 120));
            due(3, x.call(0, 0, 121, 121));
        });
        hold(12, "the departure is not ahead of the arrival.", () -> {
            refused(ARGUMENT, x -> x.call(0, 3, 510, 509));
            due(4, rich().call(0, 3, 510, 510));
        });
        hold(12, "Times are minutes, 0 to 2879", () -> {
            Lastbus x = daily(0, 0, 0);
            ride(x, 0, 0, 1, 1);
            due(1, x.timeAt(0, 1, true));
            due(3, x.call(0, 2, 2, 2879));
            due(2879, x.timeAt(0, 2, false));
            ride(x, 0, 2878, 1, 2879);
            due(2879, x.timeAt(1, 1, true));
            // Nothing can be behind the last minute.
            thrown(ARGUMENT, () -> x.call(1, 2, 2880, 2880));
            thrown(ARGUMENT, () -> x.call(0, 0, 2879, 2879));
        });
        hold(12, "if a time is out of range, or they are not as told", () -> {
            each(outside(0, 2879), time -> {
                refused(ARGUMENT, x -> x.call(0, 3, time, time));
                refused(ARGUMENT, x -> x.call(0, 3, 510, time));
                refused(ARGUMENT, x -> x.call(0, 3, time, 2000));
            });
            refused(ARGUMENT, x -> x.call(0, 3, GREATEST, LEAST));
            refused(ARGUMENT, x -> x.call(0, 3, 0, 0));
        });
    }

    private void callRefused() {
        hold(12, "Throws `IndexOutOfBoundsException` if there is no such trip or stop", () -> {
            each(outside(0, 3), trip -> refused(INDEX, x -> x.call(trip, 1, 2000, 2000)));
            each(outside(0, 4), stop -> refused(INDEX, x -> x.call(0, stop, 2000, 2000)));
            refused(INDEX, Tables::full, x -> x.call(24, 0, 2000, 2000));
        });
        hold(12, "Throws `IllegalStateException` if it has 8", () -> {
            refused(STATE, Tables::full, x -> x.call(0, 3, 180, 180));
            refused(STATE, Tables::full, x -> x.call(0, 0, 171, 2879));
            due(3, full().call(1, 4, 190, 190));
        });
        hold(12, ORDER, () -> {
            refused(INDEX, x -> x.call(4, 0, -1, -1));
            refused(INDEX, x -> x.call(0, 5, 510, 509));
            refused(INDEX, Tables::full, x -> x.call(0, 12, 180, 180));
            refused(ARGUMENT, Tables::full, x -> x.call(0, 2, 180, 180));
            refused(ARGUMENT, Tables::full, x -> x.call(0, 3, 170, 170));
            refused(ARGUMENT, Tables::full, x -> x.call(0, 3, 180, 2880));
        });
    }

    private void tripsAndCalls() {
        hold(13, "Returns how many.", () -> {
            due(0, new Lastbus().trips());
            due(4, rich().trips());
            due(24, full().trips());
        });
        hold(14, "with 1 to 8 calls", () -> {
            due(1, rich().calls(3));
            due(8, full().calls(0));
        });
        hold(14, NO_TRIP, () -> {
            each(outside(0, 3), trip -> refused(INDEX, x -> x.calls(trip)));
            refused(INDEX, Tables::full, x -> x.calls(24));
            refused(INDEX, Lastbus::new, x -> x.calls(0));
        });
    }

    private void stopAt() {
        hold(15, "numbered from 0, at stops", () -> {
            due(0, full().stopAt(0, 0));
            due(2, full().stopAt(0, 7));
            due(11, full().stopAt(23, 0));
        });
        hold(15, NO_CALL, () -> {
            each(outside(0, 3), trip -> refused(INDEX, x -> x.stopAt(trip, 0)));
            each(outside(0, 2), call -> refused(INDEX, x -> x.stopAt(0, call)));
            refused(INDEX, x -> x.stopAt(3, 1));
            refused(INDEX, Tables::full, x -> x.stopAt(0, 8));
            refused(INDEX, Tables::full, x -> x.stopAt(24, 0));
            refused(INDEX, Lastbus::new, x -> x.stopAt(0, 0));
        });
    }

    private void timeAt() {
        hold(16, "Returns a time of a call, without lateness.", () -> {
            Lastbus x = daily(0, 0);
            ride(x, 0, 100, 1, 110);
            for (int day = 0; day < 12; day++) {
                x.late(day, 0, 0, 120);
            }
            due(100, x.timeAt(0, 0, false));
            due(110, x.timeAt(0, 1, true));
        });
        hold(16, "`isArrival`: whether the arrival; the call 0 has its departure for that", () -> {
            due(480, rich().timeAt(0, 0, true));
            due(480, rich().timeAt(0, 0, false));
            due(490, rich().timeAt(0, 1, true));
            due(492, rich().timeAt(0, 1, false));
            due(1430, rich().timeAt(3, 0, true));
            due(170, full().timeAt(0, 7, true));
        });
        hold(16, NO_CALL, () -> {
            each(outside(0, 3), trip -> refused(INDEX, x -> x.timeAt(trip, 0, true)));
            each(outside(0, 2), call -> refused(INDEX, x -> x.timeAt(0, call, false)));
            refused(INDEX, x -> x.timeAt(3, 1, true));
            refused(INDEX, Tables::full, x -> x.timeAt(0, 8, true));
            refused(INDEX, Tables::full, x -> x.timeAt(24, 0, false));
        });
    }

    private void shift() {
        hold(17, "`minutes`: -60 to 60", () -> {
            Lastbus x = rich();
            due(540, x.shift(0, 60));
            due(480, x.shift(0, -60));
            due(480, x.shift(0, 0));
            due(490, x.timeAt(0, 1, true));
        });
        hold(17, "Returns its first departure then.", () -> {
            Lastbus x = rich();
            due(481, x.shift(0, 1));
            due(491, x.timeAt(0, 1, true));
            due(493, x.timeAt(0, 1, false));
            due(501, x.timeAt(0, 2, true));
            due(494, x.timeAt(1, 0, false));
            due(1429, x.shift(3, -1));
            due(1429, x.timeAt(3, 0, true));
        });
        hold(17, "Shifts all times of a trip.", () -> {
            Lastbus x = full();
            due(40, x.shift(0, -60));
            for (int call = 0; call < 8; call++) {
                due(40 + 10 * call, x.timeAt(0, call, true));
                due(40 + 10 * call, x.timeAt(0, call, false));
            }
        });
        hold(17, "Times are minutes, 0 to 2879", () -> {
            Lastbus x = daily(0, 0);
            ride(x, 0, 60);
            x.call(0, 1, 70, 2819);
            due(0, x.shift(0, -60));
            due(60, x.shift(0, 60));
            due(120, x.shift(0, 60));
            due(2879, x.timeAt(0, 1, false));
            thrown(ARGUMENT, () -> x.shift(0, 1));
            due(2879, x.timeAt(0, 1, false));
        });
    }

    private void shiftRefused() {
        hold(17, NO_TRIP, () -> {
            each(outside(0, 3), trip -> refused(INDEX, x -> x.shift(trip, 1)));
            refused(INDEX, Tables::full, x -> x.shift(24, 1));
            refused(INDEX, Lastbus::new, x -> x.shift(0, 0));
        });
        hold(17, "Throws `IllegalArgumentException` if the minutes are out of range", () ->
                each(outside(-60, 60), minutes -> {
                    refused(ARGUMENT, x -> x.shift(0, minutes));
                    refused(ARGUMENT, x -> x.shift(3, minutes));
                }));
        hold(17, "or some time would be", () -> {
            // The first departure below 0, or the last departure, or a single one, above 2879.
            refused(ARGUMENT, () -> shiftable(59, 70, 80), x -> x.shift(0, -60));
            refused(ARGUMENT, () -> shiftable(0, 1, 1), x -> x.shift(0, -1));
            refused(ARGUMENT, () -> shiftable(100, 110, 2820), x -> x.shift(0, 60));
            refused(ARGUMENT, () -> shiftable(2800, 2879, 2879), x -> x.shift(0, 1));
            refused(ARGUMENT, Tables::full, x -> x.shift(23, 1));
            due(0, shiftable(60, 70, 80).shift(0, -60));
            due(160, shiftable(100, 110, 2819).shift(0, 60));
            due(2819, full().shift(23, -60));
        });
        hold(17, ORDER, () -> {
            refused(INDEX, x -> x.shift(4, 61));
            refused(INDEX, x -> x.shift(-1, LEAST));
        });
    }

    private static Lastbus shiftable(int departure, int arrival, int end) {
        Lastbus x = daily(0, 0);
        x.trip(0, 0, departure);
        x.call(0, 1, arrival, end);
        return x;
    }
}
