/** Boundary cases of the earliest arrival, which is found in four ways: promises 26, 27, 28 and 36. */
final class WayBoundaries extends Boundaries {
    private static final String RUNS = "If a day is asked, the runs are those of the trips that run on the day ahead of it, on "
            + "the day itself, and on the day behind it";
    private static final String TIMES = "times are told by the day that is asked, those of the day ahead less 1440, those of "
            + "the day behind and 1440.";
    private static final String BELOW = "A time below 0 is not looked at: one cannot get on then.";
    private static final String BEGINNING =
            "One can get on at the beginning, or behind a walk, if one is at the stop at the departure or ahead of it";
    private static final String CHANGING = "behind a ride, without a walk, if the minutes for changing at the stop lie between "
            + "its arrival and the departure, at least.";

    private interface Way {
        int ask(Lastbus x, int from, int to, int day, int minute);
    }

    WayBoundaries(Sentences doc) {
        super(doc);
    }

    @Override
    void holdAll() {
        holdFor(26, (x, from, to, day, minute) -> x.earliest(from, to, day, minute));
        holdFor(27, (x, from, to, day, minute) -> x.earliestByQueue(from, to, day, minute));
        holdFor(28, (x, from, to, day, minute) -> x.earliestByRounds(from, to, day, minute));
        holdFor(36, (x, from, to, day, minute) -> x.byPairs(from, to, day, minute));
        found();
    }

    private void holdFor(int promise, Way way) {
        minutes(promise, way);
        runs(promise, way);
        timesOfRuns(promise, way);
        latenessOfRuns(promise, way);
        belowZero(promise, way);
        beginnings(promise, way);
        changes(promise, way);
        walks(promise, way);
        rides(promise, way);
        leastOfAll(promise, way);
        greatestTable(promise, way);
        toldBackwards(promise, way);
        manyPlaces(promise, way);
        refusals(promise, way);
        orders(promise, way);
    }

    private void minutes(int promise, Way way) {
        hold(promise, "`minute`: 0 to 1439, when one begins", () -> {
            Lastbus x = onDay(3, 0, 0);
            ride(x, 0, 0, 1, 5);
            ride(x, 0, 1439, 1, 1445);
            due(5, way.ask(x, 0, 1, 3, 0));
            due(1445, way.ask(x, 0, 1, 3, 1));
            due(1445, way.ask(x, 0, 1, 3, 1439));
        });
        hold(promise, "Days are 0 to 27.", () -> {
            Lastbus x = daily(0, 0);
            ride(x, 0, 100, 1, 110);
            due(110, way.ask(x, 0, 1, 0, 100));
            due(110, way.ask(x, 0, 1, 27, 100));
        });
        hold(promise, "A way without rides and walks stays at its stop.", () -> {
            Lastbus x = stops(30);
            due(0, way.ask(x, 0, 0, 0, 0));
            due(1439, way.ask(x, 0, 0, 27, 1439));
            // Also if one could go away and come back.
            Lastbus y = daily(0, 0);
            y.walk(0, 1, 1);
            ride(y, 0, 100, 1, 110, 0, 120);
            due(100, way.ask(y, 0, 0, 3, 100));
        });
    }

    private void runs(int promise, Way way) {
        hold(promise, RUNS, () -> {
            Lastbus x = onDay(5, 0, 0, 0);
            ride(x, 0, 1430, 1, 1445, 2, 1455);
            due(1445, way.ask(x, 0, 1, 5, 1430));
            due(15, way.ask(x, 1, 2, 6, 5));
            due(2885, way.ask(x, 0, 1, 4, 1439));
            // Two days ahead or behind there are no runs, not even of times that would come in.
            thrown(ELEMENT, () -> way.ask(x, 1, 2, 7, 0));
            thrown(ELEMENT, () -> way.ask(x, 0, 1, 3, 0));
        });
        hold(promise, "A trip runs on the days of its service.", () -> {
            Lastbus x = onDay(5, 0, 0);
            ride(x, 0, 1430, 1, 1450);
            thrown(ELEMENT, () -> way.ask(x, 0, 1, 6, 0));
            x.putDay(0, 6, true);
            due(1450, way.ask(x, 0, 1, 6, 0));
            x.putDay(0, 5, false);
            due(2890, way.ask(x, 0, 1, 5, 0));
        });
        hold(promise, RUNS, () -> {
            // Ahead of the day 0 and behind the day 27 there is none.
            Lastbus x = daily(0, 0);
            ride(x, 0, 1500, 1, 1510);
            due(1510, way.ask(x, 0, 1, 0, 0));
            due(70, way.ask(x, 0, 1, 1, 0));
            due(70, way.ask(x, 0, 1, 27, 60));
            due(1510, way.ask(x, 0, 1, 27, 61));
            x.shift(0, -60);
            due(10, way.ask(x, 0, 1, 27, 0));
            due(1450, way.ask(x, 0, 1, 27, 1));
            x.shift(0, -1);
            due(1449, way.ask(x, 0, 1, 27, 1439));
            x.shift(0, -1);
            thrown(ELEMENT, () -> way.ask(x, 0, 1, 27, 1439));
            due(1448 + 1440, way.ask(x, 0, 1, 26, 1439));
        });
    }

    private void timesOfRuns(int promise, Way way) {
        hold(promise, TIMES, () -> {
            Lastbus x = onDay(5, 0, 0);
            ride(x, 0, 1440, 1, 2879);
            due(1439, way.ask(x, 0, 1, 6, 0));
            thrown(ELEMENT, () -> way.ask(x, 0, 1, 6, 1));
            due(2879, way.ask(x, 0, 1, 5, 1439));
            due(4319, way.ask(x, 0, 1, 4, 0));
        });
        hold(promise, TIMES, () -> {
            // From a run of the day ahead to one of the day itself, and on to one of the day behind.
            Lastbus x = daily(0, 0, 0, 0);
            ride(x, 0, 2870, 1, 2875);
            ride(x, 1, 1435, 2, 1438);
            ride(x, 2, 0, 3, 4);
            due(1435, way.ask(x, 0, 1, 3, 1430));
            due(1438, way.ask(x, 0, 2, 3, 1430));
            due(1444, way.ask(x, 0, 3, 3, 1430));
        });
    }

    private void latenessOfRuns(int promise, Way way) {
        hold(promise, "with their lateness on these days", () -> {
            Lastbus x = daily(0, 0);
            ride(x, 0, 1500, 1, 1510);
            x.late(4, 0, 0, 1);
            x.late(5, 0, 0, 2);
            x.late(6, 0, 0, 4);
            due(71, way.ask(x, 0, 1, 5, 0));
            due(1512, way.ask(x, 0, 1, 5, 62));
            due(70, way.ask(x, 0, 1, 4, 0));
            due(1511, way.ask(x, 0, 1, 4, 61));
            due(72, way.ask(x, 0, 1, 6, 62));
            due(1514, way.ask(x, 0, 1, 6, 63));
            due(74, way.ask(x, 0, 1, 7, 64));
            x.shift(0, -60);
            due(1450, way.ask(x, 0, 1, 7, 5));
            due(2890 + 1, way.ask(onlyLateOn(4), 0, 1, 3, 0));
        });
    }

    private static Lastbus onlyLateOn(int day) {
        Lastbus x = onDay(day, 0, 0);
        ride(x, 0, 1440, 1, 1450);
        x.late(day, 0, 0, 1);
        return x;
    }

    private void belowZero(int promise, Way way) {
        hold(promise, BELOW, () -> {
            Lastbus x = onDay(5, 0, 0, 0);
            ride(x, 0, 1439, 1, 1460, 2, 1470);
            thrown(ELEMENT, () -> way.ask(x, 0, 1, 6, 0));
            // One can get on at a later call of it.
            due(30, way.ask(x, 1, 2, 6, 20));
            x.shift(0, 1);
            due(21, way.ask(x, 0, 1, 6, 0));
            x.shift(0, -1);
            // By its lateness the departure is at 0.
            x.late(5, 0, 0, 1);
            due(21, way.ask(x, 0, 1, 6, 0));
            x.late(5, 0, 1, 1);
            thrown(ELEMENT, () -> way.ask(x, 0, 1, 6, 0));
            due(31, way.ask(x, 1, 2, 6, 21));
        });
        hold(promise, BELOW, () -> {
            // The arrival is below 0, the departure behind it is not.
            Lastbus x = onDay(5, 0, 0, 0);
            ride(x, 0, 1430);
            x.call(0, 1, 1439, 1440);
            x.call(0, 2, 1450, 1450);
            due(10, way.ask(x, 1, 2, 6, 0));
            thrown(ELEMENT, () -> way.ask(x, 0, 2, 6, 0));
        });
    }

    private void beginnings(int promise, Way way) {
        hold(promise, BEGINNING, () -> {
            Lastbus x = onDay(3, 30, 30);
            ride(x, 0, 100, 1, 110);
            due(110, way.ask(x, 0, 1, 3, 99));
            due(110, way.ask(x, 0, 1, 3, 100));
            thrown(ELEMENT, () -> way.ask(x, 0, 1, 3, 101));
        });
        hold(promise, BEGINNING, () -> {
            Lastbus x = onDay(3, 30, 30, 30);
            x.walk(0, 1, 60);
            ride(x, 1, 160, 2, 170);
            due(170, way.ask(x, 0, 2, 3, 100));
            thrown(ELEMENT, () -> way.ask(x, 0, 2, 3, 101));
        });
        hold(promise, BEGINNING, () -> {
            // Behind a ride and a walk: no minutes for changing, neither where one gets off nor where one gets on.
            Lastbus x = onDay(3, 30, 30, 30, 30);
            ride(x, 0, 100, 1, 110);
            x.walk(1, 2, 1);
            ride(x, 2, 111, 3, 120);
            due(120, way.ask(x, 0, 3, 3, 100));
            x.walk(1, 2, 2);
            thrown(ELEMENT, () -> way.ask(x, 0, 3, 3, 100));
        });
    }

    private void changes(int promise, Way way) {
        hold(promise, CHANGING, () -> {
            Lastbus x = onDay(3, 0, 30, 0);
            ride(x, 0, 100, 1, 110);
            ride(x, 1, 140, 2, 150);
            due(150, way.ask(x, 0, 2, 3, 100));
            x.shift(1, -1);
            thrown(ELEMENT, () -> way.ask(x, 0, 2, 3, 100));
            x.setChange(1, 29);
            due(149, way.ask(x, 0, 2, 3, 100));
        });
        hold(promise, CHANGING, () -> {
            // Without minutes for changing one gets on at the minute of the arrival, but not ahead of it.
            Lastbus x = onDay(3, 0, 0, 0);
            ride(x, 0, 100, 1, 110);
            ride(x, 1, 110, 2, 120);
            due(120, way.ask(x, 0, 2, 3, 100));
            x.shift(1, -1);
            thrown(ELEMENT, () -> way.ask(x, 0, 2, 3, 100));
        });
        hold(promise, CHANGING, () -> {
            for (int stop = 0; stop < 12; stop++) {
                changeAt(way, stop);
            }
        });
    }

    /** Of twelve stops it is the one at which one changes whose minutes count. */
    private void changeAt(Way way, int stop) {
        Lastbus x = onDay(3, 30, 30, 30, 30, 30, 30, 30, 30, 30, 30, 30, 30);
        int from = (stop + 1) % 12;
        int to = (stop + 2) % 12;
        ride(x, from, 100, stop, 110);
        ride(x, stop, 114, to, 120);
        x.setChange(stop, 4);
        due(120, way.ask(x, from, to, 3, 100));
        x.setChange(stop, 5);
        thrown(ELEMENT, () -> way.ask(x, from, to, 3, 100));
    }

    private void walks(int promise, Way way) {
        hold(promise, "no two walks behind one another.", () -> {
            // Nobody walks away and back, or on the spot, to evade the minutes for changing.
            Lastbus x = onDay(3, 0, 30, 0, 0);
            ride(x, 0, 100, 1, 110);
            x.walk(1, 2, 1);
            ride(x, 1, 139, 3, 150);
            thrown(ELEMENT, () -> way.ask(x, 0, 3, 3, 100));
            x.setChange(1, 29);
            due(150, way.ask(x, 0, 3, 3, 100));
        });
        hold(promise, "no two walks behind one another.", () -> {
            // Told walks one behind the other are one walk.
            Lastbus x = onDay(3, 0, 0, 0, 0);
            x.walk(0, 1, 60);
            x.walk(1, 2, 60);
            due(220, way.ask(x, 0, 2, 3, 100));
            x.walk(2, 3, 60);
            due(1439 + 180, way.ask(x, 0, 3, 3, 1439));
            due(180, way.ask(x, 3, 0, 3, 0));
        });
        hold(promise, "It arrives at its end at the arrival of its last ride, or walk, or, staying, at the minute at which it begins.",
                () -> {
                    Lastbus x = onDay(3, 30, 30, 30);
                    ride(x, 0, 100);
                    x.call(0, 1, 110, 500);
                    x.walk(1, 2, 7);
                    // At the arrival, not at the departure; and at the end no minutes for changing.
                    due(110, way.ask(x, 0, 1, 3, 90));
                    due(117, way.ask(x, 0, 2, 3, 90));
                    due(97, way.ask(x, 1, 2, 3, 90));
                    due(90, way.ask(x, 2, 2, 3, 90));
                });
    }

    private void rides(int promise, Way way) {
        hold(promise, "A ride gets on a run at a call and off at a later one.", () -> {
            Lastbus x = onDay(3, 0, 0, 0);
            ride(x, 0, 100, 1, 110, 0, 120, 2, 130);
            due(110, way.ask(x, 0, 1, 3, 100));
            thrown(ELEMENT, () -> way.ask(x, 0, 1, 3, 101));
            due(130, way.ask(x, 0, 2, 3, 120));
            due(120, way.ask(x, 1, 0, 3, 110));
            thrown(ELEMENT, () -> way.ask(x, 2, 0, 3, 0));
        });
        hold(promise, "A ride gets on a run at a call and off at a later one.", () -> {
            // A trip of one call leads nowhere.
            Lastbus x = onDay(3, 0, 0);
            x.trip(0, 0, 100);
            thrown(ELEMENT, () -> way.ask(x, 0, 1, 3, 100));
            due(100, way.ask(x, 0, 0, 3, 100));
        });
    }

    private void leastOfAll(int promise, Way way) {
        hold(promise, "The earliest arrival at a stop is the least of all ways.", () -> {
            Lastbus x = onDay(3, 0, 0, 0, 0);
            ride(x, 0, 100, 3, 150);
            due(150, way.ask(x, 0, 3, 3, 100));
            ride(x, 0, 105, 3, 149);
            due(149, way.ask(x, 0, 3, 3, 100));
            ride(x, 0, 101, 1, 110);
            ride(x, 1, 110, 3, 148);
            due(148, way.ask(x, 0, 3, 3, 100));
            x.walk(0, 3, 48);
            due(148, way.ask(x, 0, 3, 3, 100));
            x.walk(0, 3, 47);
            due(147, way.ask(x, 0, 3, 3, 100));
        });
    }

    /** As many stops, trips and calls as there can be: a way of 11 rides, which runs for three days. */
    private void greatestTable(int promise, Way way) {
        hold(promise, "The earliest arrival at a stop is the least of all ways.", () -> {
            Lastbus x = daily(1, 1, 1, 1, 1, 1, 1, 1, 1, 1, 1, 1);
            for (int trip = 0; trip < 24; trip++) {
                int stop = trip % 11;
                ride(x, stop, 100 + 10 * stop + trip / 11, stop + 1, 109 + 10 * stop + trip / 11);
            }
            due(209, way.ask(x, 0, 11, 3, 100));
            due(210, way.ask(x, 0, 11, 3, 101));
            x.setChange(5, 2);
            due(210, way.ask(x, 0, 11, 3, 100));
            x.setChange(5, 3);
            due(1440 + 209, way.ask(x, 0, 11, 3, 100));
            thrown(ELEMENT, () -> way.ask(x, 11, 0, 3, 0));
        });
    }

    /** The order in which trips are told says nothing: here each is told ahead of the one that brings to it. */
    private void toldBackwards(int promise, Way way) {
        hold(promise, "The earliest arrival at a stop is the least of all ways.", () -> {
            Lastbus x = onDay(3, 1, 1, 1, 1, 1, 1, 1, 1, 1, 1, 1, 1);
            for (int stop = 10; stop >= 0; stop--) {
                ride(x, stop, 100 + 10 * stop, stop + 1, 109 + 10 * stop);
                ride(x, stop, 120 + 20 * stop, stop + 1, 139 + 20 * stop);
            }
            due(209, way.ask(x, 0, 11, 3, 100));
            due(339, way.ask(x, 0, 11, 3, 101));
            thrown(ELEMENT, () -> way.ask(x, 0, 11, 3, 121));
        });
        hold(promise, "The earliest arrival at a stop is the least of all ways.", () -> {
            // What is reached first, and later, and by another way: the earliest of each goes on.
            Lastbus x = onDay(3, 0, 0, 0, 0);
            ride(x, 2, 125, 3, 130);
            ride(x, 0, 100, 2, 150);
            ride(x, 1, 112, 2, 120);
            ride(x, 0, 100, 1, 110);
            due(130, way.ask(x, 0, 3, 3, 100));
        });
    }

    /** Each stop but two is reached by a walk, and later by a ride; the last one only behind all of these. */
    private void manyPlaces(int promise, Way way) {
        hold(promise, "The earliest arrival at a stop is the least of all ways.", () -> {
            Lastbus x = onDay(3, 0, 0, 0, 0, 0, 0, 0, 0, 0, 0, 0, 0);
            for (int stop = 1; stop < 10; stop++) {
                x.walk(0, stop, stop);
                ride(x, 0, 110, stop, 120 + stop);
            }
            ride(x, 0, 115, 10, 190);
            ride(x, 10, 190, 11, 200);
            due(200, way.ask(x, 0, 11, 3, 100));
            due(109, way.ask(x, 0, 9, 3, 100));
            due(200, way.ask(x, 9, 11, 3, 106));
            thrown(ELEMENT, () -> way.ask(x, 9, 11, 3, 107));
        });
    }

    private void refusals(int promise, Way way) {
        hold(promise, NO_STOPS, () -> {
            each(outside(0, 4), stop -> refused(INDEX, x -> way.ask(x, stop, 0, 3, 470)));
            each(outside(0, 4), stop -> refused(INDEX, x -> way.ask(x, 0, stop, 3, 470)));
            refused(INDEX, Tables::full, x -> way.ask(x, 0, 12, 3, 470));
            refused(INDEX, Lastbus::new, x -> way.ask(x, 0, 0, 3, 470));
        });
        hold(promise, DAY_OR_MINUTE, () -> {
            each(outside(0, 27), day -> refused(ARGUMENT, x -> way.ask(x, 0, 2, day, 470)));
            each(outside(0, 27), day -> refused(ARGUMENT, x -> way.ask(x, 0, 0, day, 470)));
            each(outside(0, 1439), minute -> refused(ARGUMENT, x -> way.ask(x, 0, 2, 3, minute)));
            each(outside(0, 1439), minute -> refused(ARGUMENT, x -> way.ask(x, 0, 0, 3, minute)));
        });
        hold(promise, NO_WAY, () -> {
            refused(ELEMENT, x -> way.ask(x, 0, 4, 3, 470));
            refused(ELEMENT, x -> way.ask(x, 4, 0, 3, 0));
            refused(ELEMENT, x -> way.ask(x, 0, 1, 27, 481));
            refused(ELEMENT, () -> stops(0, 0), x -> way.ask(x, 0, 1, 0, 0));
        });
    }

    private void orders(int promise, Way way) {
        hold(promise, ORDER, () -> {
            refused(INDEX, x -> way.ask(x, 5, 0, 28, 470));
            refused(INDEX, x -> way.ask(x, 0, 5, 3, 1440));
            refused(INDEX, x -> way.ask(x, 5, 5, 3, 470));
            refused(ARGUMENT, x -> way.ask(x, 0, 4, 28, 470));
            refused(ARGUMENT, x -> way.ask(x, 0, 4, 3, -1));
        });
    }

    private void found() {
        hold(27, "Returns the same, found by going on from the earliest place.", () -> {
            Lastbus x = rich();
            for (int minute = 470; minute < 500; minute++) {
                due(x.earliest(0, 2, 4, minute), x.earliestByQueue(0, 2, 4, minute));
            }
        });
        hold(28, "Returns the same, found by rounds of one ride more each.", () -> {
            Lastbus x = rich();
            for (int minute = 470; minute < 500; minute++) {
                due(x.earliest(0, 2, 4, minute), x.earliestByRounds(0, 2, 4, minute));
            }
        });
        hold(36, "Returns the minute, by the day; the same minute for the same stop.", () -> {
            Lastbus x = rich();
            due(0, x.byPairs(4, 4, 3, 0));
            due(1439, x.byPairs(0, 0, 0, 1439));
            due(497, x.byPairs(0, 2, 3, 480));
            due(500 + 1440, x.byPairs(0, 2, 3, 481));
            due(476, x.byPairs(2, 3, 3, 470));
        });
        hold(36, "Returns the earliest arrival, found among the pairs by halves, or by walking.", () -> {
            Lastbus x = onDay(3, 0, 0);
            for (int trip = 0; trip < 24; trip++) {
                ride(x, 0, 100 + 10 * trip, 1, 105 + 10 * trip);
            }
            x.walk(0, 1, 8);
            for (int minute = 90; minute < 340; minute++) {
                int next = (minute + 9) / 10 * 10;
                int byRide = minute <= 100 ? 105 : next > 330 ? 5000 : next + 5;
                due(Math.min(byRide, minute + 8), x.byPairs(0, 1, 3, minute));
            }
        });
    }
}
