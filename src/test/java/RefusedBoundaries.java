/**
 * A refused call changes nothing: each test of a refused call asks afterwards what stands, by Tables.asked. Here it is shown
 * that those questions see whatever a call can change, and that a refused call leaves room for what is due after it.
 */
final class RefusedBoundaries extends Boundaries {
    private static final String NOTHING = "A method that throws an exception changes nothing, but for the place of a fault.";

    RefusedBoundaries(Sentences doc) {
        super(doc);
    }

    @Override
    void holdAll() {
        seenInStops();
        seenInTrips();
        seenInTexts();
        seenInWaits();
        askedTwice();
        roomLeft();
    }

    private void seenInStops() {
        hold(2, NOTHING, () -> seen(x -> x.stop(0)));
        hold(3, NOTHING, () -> {
            for (int stop = 0; stop < 5; stop++) {
                int at = stop;
                seen(x -> x.setChange(at, 30));
            }
        });
        hold(4, NOTHING, () -> {
            seen(x -> x.walk(0, 1, 1));
            seen(x -> x.walk(2, 3, 0));
            seen(x -> x.walk(3, 2, 7));
            seen(x -> x.walk(4, 3, 60));
        });
    }

    private void seenInTrips() {
        hold(6, NOTHING, () -> seen(x -> x.service()));
        hold(7, NOTHING, () -> seen(x -> x.week(2, 64, 27, 27)));
        hold(8, NOTHING, () -> {
            seen(x -> x.putDay(0, 27, false));
            seen(x -> x.putDay(2, 0, true));
        });
        hold(11, NOTHING, () -> seen(x -> x.trip(2, 4, 0)));
        hold(12, NOTHING, () -> seen(x -> x.call(3, 4, 2879, 2879)));
        hold(17, NOTHING, () -> {
            seen(x -> x.shift(3, 1));
            seen(x -> x.shift(0, -1));
        });
    }

    private void seenInTexts() {
        hold(18, NOTHING, () -> seen(x -> x.type('0')));
        hold(19, NOTHING, () -> seen(x -> x.typeNumber(0)));
        hold(20, NOTHING, () -> {
            seen(x -> x.erase());
            // Another text of as many signs.
            seen(x -> typed(x, "0:0@600,1@610-613"));
            seen(x -> typed(x, "0:1@600,0@610-612"));
        });
        hold(21, NOTHING, () -> seen(x -> x.readRow()));
    }

    private void seenInWaits() {
        hold(23, NOTHING, () -> {
            seen(x -> x.late(3, 0, 1, 10));
            seen(x -> x.late(3, 0, 0, 9));
            seen(x -> x.late(3, 0, 1, 0));
            seen(x -> x.late(27, 0, 2, 1));
            seen(x -> x.late(27, 3, 0, 1));
        });
        hold(25, NOTHING, () -> seen(x -> x.onTime()));
        hold(31, NOTHING, () -> {
            seen(x -> x.chain(0, 1, 5, 470));
            seen(x -> x.chain(1, 2, 5, 494));
            seen(x -> x.chain(2, 2, 3, 0));
        });
        hold(40, NOTHING, () -> {
            seen(x -> x.wish(0, 1, 1, 0, 1));
            seen(x -> x.wish(2, 1, 0, 0, 99));
        });
        hold(41, NOTHING, () -> seen(x -> x.dropWishes()));
    }

    private void askedTwice() {
        hold(53, NOTHING, () -> {
            // Questions change nothing, whether they are answered or refused.
            Lastbus x = rich();
            for (int day = 0; day < 28; day++) {
                x.isSound(day);
                x.bestWaits(day);
                x.bridges(day);
                x.gains(0, 60, day, 470);
                x.loses(1, -60, day, 470);
                x.pairs(0, 2, day);
            }
            due(asked(rich()), asked(x));
        });
    }

    private void roomLeft() {
        hold(2, NOTHING, () -> {
            // Calls that are refused take no number away.
            Lastbus x = new Lastbus();
            for (int stop = 0; stop < 12; stop++) {
                thrown(ARGUMENT, () -> x.stop(31));
                due(stop, x.stop(30));
            }
        });
        hold(11, NOTHING, () -> {
            Lastbus x = daily(0, 0);
            for (int trip = 0; trip < 24; trip++) {
                thrown(ARGUMENT, () -> x.trip(0, 0, 2880));
                due(trip, x.trip(0, 0, 100));
            }
        });
        hold(12, NOTHING, () -> {
            Lastbus x = daily(0, 0);
            x.trip(0, 0, 100);
            for (int call = 1; call < 8; call++) {
                int stop = call % 2;
                int time = 100 + call;
                thrown(ARGUMENT, () -> x.call(0, stop, time, time - 1));
                thrown(ARGUMENT, () -> x.call(0, 1 - stop, time, time));
                due(call + 1, x.call(0, stop, time, time));
            }
        });
        hold(21, NOTHING, () -> {
            Lastbus x = daily(0, 0);
            for (int trip = 0; trip < 24; trip++) {
                typed(x, "0:0@5,1@5");
                thrown(SUPPORT, () -> x.readRow());
                typed(x, "0:0@");
                thrown(ARGUMENT, () -> x.readRow());
                x.type('5');
                due(trip, x.readRow());
            }
            due(24, x.trips());
        });
        hold(40, NOTHING, () -> {
            Lastbus x = rich();
            for (int wish = 2; wish < 6; wish++) {
                thrown(SUPPORT, () -> x.wish(0, 2, 1, 0, 5));
                thrown(ARGUMENT, () -> x.wish(0, 1, 1, 0, 100));
                due(wish, x.wish(0, 1, 1, 0, 99));
            }
        });
    }
}
