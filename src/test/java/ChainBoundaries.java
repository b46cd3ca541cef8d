/** Boundary cases of the wall, the last chance, the chain and of being on board: promises 29 to 33. */
final class ChainBoundaries extends Boundaries {
    private static final String WALL = "Returns the wall: the stops at which one can be ahead of a minute.";
    private static final String LAST = "Returns the last minute at which one can leave to arrive by a minute";
    private static final String KEPT = "Finds the chain of the earliest arrival, which is kept till the next one is found.";
    private static final String FIRST_RUN = "Its last ride is the one of the first run, in the order of runs, that can be the "
            + "last ride of a way of so many rides that comes in time";
    private static final String LETTERS = "`what`: 't' its trip, 'd' the day on which that runs less the day that was asked, "
            + "'o' the call at which one gets on, 'f' that at which one gets off";
    private static final String ON_BOARD = "Returns the earliest arrival for one who is in a trip as it leaves a call; "
            + "the ways go on from there.";

    ChainBoundaries(Sentences doc) {
        super(doc);
    }

    @Override
    void holdAll() {
        wall();
        wallRefused();
        last();
        lastRides();
        lastOfMany();
        lastRefused();
        chain();
        chainRuns();
        chainCalls();
        chainRefused();
        ride();
        rideRefused();
        onBoard();
        onBoardRefused();
    }

    private void wall() {
        hold(29, WALL, () -> {
            Lastbus x = onDay(3, 0, 0, 0);
            ride(x, 0, 100, 1, 110);
            x.walk(1, 2, 5);
            due(0, x.wall(0, 3, 100, 100));
            due(1, x.wall(0, 3, 100, 101));
            due(1, x.wall(0, 3, 100, 110));
            due(3, x.wall(0, 3, 100, 111));
            due(3, x.wall(0, 3, 100, 115));
            due(7, x.wall(0, 3, 100, 116));
            due(1, x.wall(0, 3, 101, 4319));
        });
        hold(29, "`minute`: 0 to 1439, when one begins", () -> {
            Lastbus x = onDay(3, 0, 0);
            ride(x, 0, 0, 1, 1);
            ride(x, 0, 1439, 1, 1440);
            due(3, x.wall(0, 3, 0, 2));
            due(1, x.wall(0, 3, 1, 1440));
            due(3, x.wall(0, 3, 1439, 1441));
        });
        hold(29, "`before`: the minute, 0 to 4319", () -> {
            Lastbus x = onDay(3, 0, 0);
            ride(x, 0, 1440, 1, 2879);
            due(0, x.wall(0, 3, 0, 0));
            due(1, x.wall(0, 2, 0, 4319));
            x.shift(0, -1);
            due(3, x.wall(0, 2, 0, 4319));
            due(1, x.wall(0, 2, 0, 4318));
        });
        hold(29, "Returns the sum of 2 to the power of each.", () -> {
            Lastbus x = stops(0, 0, 0, 0, 0, 0, 0, 0, 0, 0, 0, 0);
            due(2048, x.wall(11, 0, 0, 1));
            for (int stop = 0; stop < 11; stop++) {
                x.walk(stop, stop + 1, 1);
            }
            due(4095, x.wall(0, 0, 0, 12));
            due(2047, x.wall(0, 0, 0, 11));
            due(4094, x.wall(11, 0, 0, 11));
        });
    }

    private void wallRefused() {
        hold(29, NO_STOP, () -> {
            each(outside(0, 4), stop -> refused(INDEX, x -> x.wall(stop, 3, 0, 0)));
            refused(INDEX, Lastbus::new, x -> x.wall(0, 0, 0, 0));
        });
        hold(29, OUT_OF_RANGE, () -> {
            each(outside(0, 27), day -> refused(ARGUMENT, x -> x.wall(0, day, 0, 100)));
            each(outside(0, 1439), minute -> refused(ARGUMENT, x -> x.wall(0, 3, minute, 100)));
            each(outside(0, 4319), before -> refused(ARGUMENT, x -> x.wall(0, 3, 0, before)));
        });
        hold(29, ORDER, () -> {
            refused(INDEX, x -> x.wall(5, 28, 0, 0));
            refused(INDEX, x -> x.wall(-1, 3, 1440, 4320));
        });
    }

    private void last() {
        hold(30, "`minute`: 0 to 2879, by when one wants to arrive", () -> {
            Lastbus x = daily(0, 0);
            ride(x, 0, 1430, 1, 1439);
            due(1430, x.last(0, 1, 3, 1439));
            due(1430, x.last(0, 1, 3, 2878));
            due(2870, x.last(0, 1, 3, 2879));
            thrown(ELEMENT, () -> x.last(0, 1, 3, 1438));
            due(0, x.last(1, 1, 3, 0));
            due(2879, x.last(1, 1, 3, 2879));
        });
        hold(30, "Returns the minute, from 0 on.", () -> {
            Lastbus x = stops(0, 0);
            x.walk(0, 1, 60);
            due(0, x.last(0, 1, 0, 60));
            thrown(ELEMENT, () -> x.last(0, 1, 0, 59));
            due(2819, x.last(0, 1, 27, 2879));
        });
        hold(30, "Returns the minute, from 0 on.", () -> {
            // A way that must leave below 0 is none, though it gets on later than that.
            Lastbus x = onDay(3, 0, 0, 0);
            x.walk(0, 1, 8);
            ride(x, 1, 7, 2, 20);
            thrown(ELEMENT, () -> x.last(0, 2, 3, 100));
            x.shift(0, 1);
            due(0, x.last(0, 2, 3, 100));
            due(1440, x.last(0, 2, 2, 2879));
        });
        hold(30, LAST, () -> {
            Lastbus x = rich();
            for (int by = 490; by < 510; by++) {
                int leave = by < 497 ? -1 : 480;
                int minute = by;
                if (leave < 0) {
                    thrown(ELEMENT, () -> x.last(0, 2, 3, minute));
                } else {
                    due(leave, x.last(0, 2, 3, minute));
                }
            }
            due(509, x.last(2, 2, 3, 509));
            due(503, x.last(2, 3, 3, 509));
        });
    }

    private void lastRides() {
        hold(30, LAST, () -> {
            // By the last of several rides, by a change that just holds, or by the walk that leaves later.
            Lastbus x = onDay(3, 0, 5, 0);
            ride(x, 0, 100, 2, 150);
            ride(x, 0, 101, 2, 151);
            ride(x, 0, 120, 1, 130);
            ride(x, 1, 135, 2, 140);
            due(120, x.last(0, 2, 3, 140));
            thrown(ELEMENT, () -> x.last(0, 2, 3, 139));
            x.setChange(1, 6);
            thrown(ELEMENT, () -> x.last(0, 2, 3, 149));
            due(100, x.last(0, 2, 3, 150));
            due(101, x.last(0, 2, 3, 151));
            x.walk(0, 2, 50);
            due(101, x.last(0, 2, 3, 151));
            due(102, x.last(0, 2, 3, 152));
        });
        hold(30, LAST, () -> {
            // With lateness, which lets one leave later, and with runs of three days.
            Lastbus x = daily(0, 0);
            ride(x, 0, 1440, 1, 1450);
            due(0, x.last(0, 1, 3, 10));
            due(1440, x.last(0, 1, 3, 1450));
            x.late(2, 0, 0, 7);
            thrown(ELEMENT, () -> x.last(0, 1, 3, 16));
            due(7, x.last(0, 1, 3, 17));
            due(1440, x.last(0, 1, 3, 2879));
            thrown(ELEMENT, () -> x.last(0, 1, 0, 1449));
            due(1440, x.last(0, 1, 0, 1450));
        });
    }

    /** All stops one behind the other, told from the last trip; a walk behind a ride begins at the stop 0. */
    private void lastOfMany() {
        hold(30, LAST, () -> {
            Lastbus x = onDay(3, 1, 1, 1, 1, 1, 1, 1, 1, 1, 1, 1, 1);
            for (int stop = 10; stop >= 0; stop--) {
                ride(x, stop, 100 + 10 * stop, stop + 1, 109 + 10 * stop);
                ride(x, stop, 120 + 20 * stop, stop + 1, 139 + 20 * stop);
            }
            due(100, x.last(0, 11, 3, 209));
            due(100, x.last(0, 11, 3, 338));
            due(120, x.last(0, 11, 3, 339));
            thrown(ELEMENT, () -> x.last(0, 11, 3, 208));
        });
        hold(30, LAST, () -> {
            Lastbus x = onDay(3, 30, 30, 30, 30);
            x.walk(0, 1, 5);
            ride(x, 1, 120, 2, 130);
            ride(x, 3, 100, 0, 115);
            due(100, x.last(3, 2, 3, 130));
            thrown(ELEMENT, () -> x.last(3, 2, 3, 129));
            x.walk(0, 1, 6);
            thrown(ELEMENT, () -> x.last(3, 2, 3, 130));
        });
    }

    private void lastRefused() {
        hold(30, NO_STOPS, () -> {
            each(outside(0, 4), stop -> refused(INDEX, x -> x.last(stop, 0, 3, 500)));
            each(outside(0, 4), stop -> refused(INDEX, x -> x.last(0, stop, 3, 500)));
            refused(INDEX, Tables::full, x -> x.last(0, 12, 3, 500));
        });
        hold(30, DAY_OR_MINUTE, () -> {
            each(outside(0, 27), day -> refused(ARGUMENT, x -> x.last(0, 2, day, 500)));
            each(outside(0, 2879), minute -> refused(ARGUMENT, x -> x.last(0, 2, 3, minute)));
            each(outside(0, 2879), minute -> refused(ARGUMENT, x -> x.last(0, 0, 3, minute)));
        });
        hold(30, "Throws `NoSuchElementException` if there is none", () -> {
            refused(ELEMENT, x -> x.last(0, 4, 3, 2879));
            refused(ELEMENT, x -> x.last(0, 2, 3, 496));
            refused(ELEMENT, x -> x.last(2, 3, 3, 5));
        });
        hold(30, ORDER, () -> {
            refused(INDEX, x -> x.last(5, 0, 28, 500));
            refused(INDEX, x -> x.last(0, 5, 3, 2880));
            refused(ARGUMENT, x -> x.last(0, 4, 28, 500));
            refused(ARGUMENT, x -> x.last(0, 4, 3, -1));
        });
    }

    private void keptRide(Lastbus x, int index, int trip, int day, int on, int off) {
        due(trip, x.ride(index, 't'));
        due(day, x.ride(index, 'd'));
        due(on, x.ride(index, 'o'));
        due(off, x.ride(index, 'f'));
    }

    private void chain() {
        hold(31, KEPT, () -> {
            Lastbus x = rich();
            keptRide(x, 0, 0, 0, 0, 1);
            keptRide(x, 1, 1, 0, 0, 1);
            // What is told later does not change it, nor does another question.
            x.shift(0, 5);
            x.onTime();
            x.setChange(1, 30);
            x.earliestByRounds(0, 2, 3, 0);
            x.choices(0, 2, 3, 0);
            x.isSound(3);
            thrown(ELEMENT, () -> x.chain(0, 4, 3, 0));
            keptRide(x, 0, 0, 0, 0, 1);
            keptRide(x, 1, 1, 0, 0, 1);
            due(1, x.chain(1, 2, 3, 0));
            keptRide(x, 0, 1, 0, 0, 1);
            thrown(ELEMENT, () -> x.ride(1, 't'));
            due(0, x.chain(2, 2, 3, 0));
            thrown(ELEMENT, () -> x.ride(0, 't'));
        });
        hold(31, "Of all ways with that arrival it is one with the fewest rides.", () -> {
            Lastbus x = onDay(3, 0, 0, 0);
            ride(x, 0, 100, 1, 110);
            ride(x, 1, 110, 2, 120);
            due(2, x.chain(0, 2, 3, 100));
            ride(x, 0, 100, 2, 120);
            due(1, x.chain(0, 2, 3, 100));
            keptRide(x, 0, 2, 0, 0, 1);
            x.walk(0, 2, 21);
            due(1, x.chain(0, 2, 3, 100));
            x.walk(0, 2, 20);
            due(0, x.chain(0, 2, 3, 100));
            due(0, x.chain(1, 1, 3, 100));
        });
        hold(31, "`minute`: 0 to 1439, when one begins", () -> {
            Lastbus x = onDay(3, 0, 0);
            ride(x, 0, 0, 1, 1);
            ride(x, 0, 1439, 1, 1440);
            due(1, x.chain(0, 1, 3, 0));
            due(0, x.ride(0, 't'));
            due(1, x.chain(0, 1, 3, 1439));
            due(1, x.ride(0, 't'));
        });
        hold(31, "The chain of an earliest arrival is told from its end.", () -> {
            Lastbus x = daily(0, 0, 0, 0, 0, 0, 0, 0, 0, 0, 0, 0);
            for (int stop = 10; stop >= 0; stop--) {
                ride(x, stop, 100 + 10 * stop, stop + 1, 110 + 10 * stop);
            }
            due(11, x.chain(0, 11, 3, 100));
            for (int index = 0; index < 11; index++) {
                keptRide(x, index, 10 - index, 0, 0, 1);
            }
            thrown(ELEMENT, () -> x.ride(11, 't'));
        });
    }

    private void chainRuns() {
        hold(31, FIRST_RUN, () -> {
            Lastbus x = onDay(3, 0, 0, 0);
            ride(x, 1, 50, 2, 60);
            ride(x, 0, 10, 1, 50);
            ride(x, 0, 12, 2, 60);
            ride(x, 0, 11, 2, 60);
            // The first of those that are the only ride, though the trip 0 comes with another ride.
            due(1, x.chain(0, 2, 3, 0));
            keptRide(x, 0, 2, 0, 0, 1);
            due(1, x.chain(0, 2, 3, 12));
            keptRide(x, 0, 2, 0, 0, 1);
            x.shift(2, -2);
            due(1, x.chain(0, 2, 3, 11));
            keptRide(x, 0, 3, 0, 0, 1);
        });
        hold(31, "The order of runs is by days, then by trips.", () -> {
            Lastbus x = daily(0, 0);
            ride(x, 0, 100, 1, 110);
            ride(x, 0, 1540, 1, 1550);
            ride(x, 0, 1540, 1, 1550);
            due(1, x.chain(0, 1, 3, 0));
            keptRide(x, 0, 1, -1, 0, 1);
            due(1, x.chain(0, 1, 0, 0));
            keptRide(x, 0, 0, 0, 0, 1);
            // 1540 on the day itself and 100 on the day behind: the day itself.
            due(1, x.chain(0, 1, 3, 101));
            keptRide(x, 0, 1, 0, 0, 1);
            due(1, x.chain(0, 1, 27, 101));
            keptRide(x, 0, 1, 0, 0, 1);
            x.shift(1, 1);
            x.shift(2, 1);
            due(1, x.chain(0, 1, 3, 101));
            keptRide(x, 0, 1, -1, 0, 1);
            due(1, x.chain(0, 1, 3, 102));
            keptRide(x, 0, 0, 1, 0, 1);
        });
        hold(31, "then likewise the ride ahead of it, so that one comes in time to get on this one, with the rides that are left",
                () -> {
                    Lastbus x = onDay(3, 0, 4, 0);
                    ride(x, 0, 12, 1, 27);
                    ride(x, 0, 11, 1, 26);
                    ride(x, 0, 10, 1, 25);
                    ride(x, 1, 30, 2, 60);
                    ride(x, 1, 31, 2, 60);
                    // By the trip 0 one has 3 minutes to change, by the trip 1 the 4 that it takes.
                    due(2, x.chain(0, 2, 3, 0));
                    keptRide(x, 0, 1, 0, 0, 1);
                    keptRide(x, 1, 3, 0, 0, 1);
                    due(2, x.chain(0, 2, 3, 12));
                    keptRide(x, 0, 0, 0, 0, 1);
                    keptRide(x, 1, 4, 0, 0, 1);
                    x.setChange(1, 3);
                    due(2, x.chain(0, 2, 3, 0));
                    keptRide(x, 0, 0, 0, 0, 1);
                    keptRide(x, 1, 3, 0, 0, 1);
                });
    }

    private void chainCalls() {
        hold(31, "it gets off at the first call of it at which that is so", () -> {
            Lastbus x = onDay(3, 0, 0, 0);
            ride(x, 0, 10, 1, 20, 2, 30);
            x.walk(1, 2, 11);
            due(1, x.chain(0, 2, 3, 0));
            keptRide(x, 0, 0, 0, 0, 2);
            // Off at 20 and 10 minutes on foot comes at 30 too.
            x.walk(1, 2, 10);
            due(1, x.chain(0, 2, 3, 0));
            keptRide(x, 0, 0, 0, 0, 1);
        });
        hold(31, "it gets off at the first call of it at which that is so", () -> {
            // A ride ahead of another one: it calls twice where one changes.
            Lastbus x = onDay(3, 0, 9, 0, 0);
            ride(x, 0, 10, 1, 20, 3, 22, 1, 25);
            ride(x, 1, 34, 2, 50);
            due(2, x.chain(0, 2, 3, 0));
            keptRide(x, 0, 0, 0, 0, 1);
            x.walk(3, 1, 3);
            due(2, x.chain(0, 2, 3, 0));
            keptRide(x, 0, 0, 0, 0, 1);
            x.setChange(1, 15);
            due(2, x.chain(0, 2, 3, 0));
            keptRide(x, 0, 0, 0, 0, 2);
            x.walk(3, 1, 13);
            thrown(ELEMENT, () -> x.chain(0, 2, 3, 0));
            x.setChange(1, 10);
            x.shift(1, 1);
            due(2, x.chain(0, 2, 3, 0));
            keptRide(x, 0, 0, 0, 0, 1);
        });
        hold(31, "and on at the last one ahead of that at which it is", () -> {
            // Not at the call at which it gets off, though one could be there on foot ahead of the departure.
            Lastbus x = onDay(3, 0, 0, 0);
            x.trip(0, 0, 100);
            x.call(0, 1, 110, 120);
            x.call(0, 2, 130, 130);
            x.walk(0, 1, 15);
            due(1, x.chain(0, 1, 3, 100));
            keptRide(x, 0, 0, 0, 0, 1);
            due(1, x.chain(0, 2, 3, 100));
            keptRide(x, 0, 0, 0, 1, 2);
        });
        hold(31, "and on at the last one ahead of that at which it is", () -> {
            Lastbus x = onDay(3, 0, 0, 0);
            ride(x, 0, 10, 1, 20, 0, 30, 1, 40, 2, 50);
            due(1, x.chain(0, 2, 3, 0));
            keptRide(x, 0, 0, 0, 2, 4);
            due(1, x.chain(0, 1, 3, 0));
            keptRide(x, 0, 0, 0, 0, 1);
            x.walk(0, 1, 40);
            due(1, x.chain(0, 2, 3, 0));
            keptRide(x, 0, 0, 0, 3, 4);
            due(1, x.chain(0, 2, 3, 1));
            keptRide(x, 0, 0, 0, 2, 4);
        });
    }

    private void chainRefused() {
        hold(31, NO_STOPS, () -> {
            each(outside(0, 4), stop -> refused(INDEX, x -> x.chain(stop, 0, 3, 470)));
            each(outside(0, 4), stop -> refused(INDEX, x -> x.chain(0, stop, 3, 470)));
        });
        hold(31, DAY_OR_MINUTE, () -> {
            each(outside(0, 27), day -> refused(ARGUMENT, x -> x.chain(0, 2, day, 470)));
            each(outside(0, 1439), minute -> refused(ARGUMENT, x -> x.chain(0, 0, 3, minute)));
        });
        hold(31, NO_WAY, () -> {
            refused(ELEMENT, x -> x.chain(0, 4, 3, 470));
            refused(ELEMENT, x -> x.chain(0, 1, 27, 481));
            refused(ELEMENT, Tables::full, x -> x.chain(11, 0, 3, 0));
        });
        hold(31, ORDER, () -> {
            refused(INDEX, x -> x.chain(5, 0, 28, 470));
            refused(INDEX, x -> x.chain(0, 5, 3, 1440));
            refused(ARGUMENT, x -> x.chain(0, 4, 28, 470));
            refused(ARGUMENT, x -> x.chain(0, 4, 3, -1));
        });
    }

    private void ride() {
        hold(32, LETTERS, () -> {
            Lastbus x = daily(0, 0, 0);
            x.trip(0, 0, 0);
            ride(x, 0, 1440 + 50, 1, 1440 + 60, 2, 1440 + 70, 0, 1440 + 80);
            due(1, x.chain(1, 2, 3, 0));
            keptRide(x, 0, 1, -1, 1, 2);
            due(1, x.chain(1, 0, 0, 0));
            keptRide(x, 0, 1, 0, 1, 3);
            due(1, x.chain(0, 2, 3, 51));
            keptRide(x, 0, 1, 0, 0, 2);
            x.putDay(0, 3, false);
            x.shift(1, -60);
            due(1, x.chain(1, 2, 3, 11));
            keptRide(x, 0, 1, 1, 1, 2);
        });
        hold(32, "`index`: from 0, the first ride first", () -> {
            Lastbus x = rich();
            due(0, x.ride(0, 't'));
            due(1, x.ride(1, 't'));
            thrown(ELEMENT, () -> x.ride(2, 't'));
        });
        hold(32, "Returns something of a ride of the kept chain.", () -> {
            Lastbus x = full();
            due(0, x.ride(0, 't'));
            due(0, x.ride(0, 'd'));
            due(6, x.ride(0, 'o'));
            due(7, x.ride(0, 'f'));
        });
    }

    private void rideRefused() {
        hold(32, "Throws `IllegalArgumentException` if there is no such letter", () -> {
            for (char letter : new char[] {'T', 'D', 'O', 'F', 's', 'u', 'c', 'e', 'n', 'p', 'g', 'x', 0, ' ', 65535,
                (char) ('t' + 256)}) {
                refused(ARGUMENT, x -> x.ride(0, letter));
            }
        });
        hold(32, "Throws `NoSuchElementException` if no chain is kept", () -> {
            for (char letter : "tdof".toCharArray()) {
                refused(ELEMENT, Lastbus::new, x -> x.ride(0, letter));
                refused(ELEMENT, () -> daily(0, 0), x -> x.ride(-1, letter));
            }
            // None is kept where none was found.
            Lastbus x = daily(0, 0);
            thrown(ELEMENT, () -> x.chain(0, 1, 3, 0));
            thrown(ELEMENT, () -> x.ride(0, 't'));
        });
        hold(32, "or it has no such ride", () -> {
            for (char letter : "tdof".toCharArray()) {
                each(outside(0, 1), index -> refused(ELEMENT, x -> x.ride(index, letter)));
            }
            refused(ELEMENT, ChainBoundaries::withoutRides, x -> x.ride(0, 'o'));
        });
        hold(32, ORDER, () -> {
            refused(ARGUMENT, x -> x.ride(2, 'x'));
            refused(ARGUMENT, x -> x.ride(-1, 'T'));
            refused(ARGUMENT, Lastbus::new, x -> x.ride(0, (char) 0));
        });
    }

    private static Lastbus withoutRides() {
        Lastbus x = rich();
        x.chain(2, 3, 3, 0);
        return x;
    }

    private void onBoard() {
        hold(33, ON_BOARD, () -> {
            Lastbus x = onDay(3, 0, 5, 0, 0);
            ride(x, 0, 100, 1, 110, 2, 120);
            ride(x, 1, 115, 3, 130);
            due(110, x.onBoard(3, 0, 0, 1));
            due(120, x.onBoard(3, 0, 1, 2));
            due(130, x.onBoard(3, 0, 0, 3));
            // One is no more at the stop that is left.
            thrown(ELEMENT, () -> x.onBoard(3, 0, 0, 0));
            thrown(ELEMENT, () -> x.onBoard(3, 0, 1, 1));
            thrown(ELEMENT, () -> x.onBoard(3, 0, 1, 3));
            x.setChange(1, 6);
            thrown(ELEMENT, () -> x.onBoard(3, 0, 0, 3));
            x.walk(2, 0, 9);
            due(129, x.onBoard(3, 0, 1, 0));
        });
        hold(33, ON_BOARD, () -> {
            // With its lateness from that call on, past midnight, and on the first and the last day.
            Lastbus x = daily(0, 0, 0);
            ride(x, 0, 2870, 1, 2875, 2, 2879);
            ride(x, 2, 2, 0, 9);
            x.late(27, 0, 1, 120);
            due(2875, x.onBoard(27, 0, 0, 1));
            due(2999, x.onBoard(27, 0, 1, 2));
            due(2879, x.onBoard(0, 0, 1, 2));
            thrown(ELEMENT, () -> x.onBoard(0, 0, 1, 0));
            x.shift(0, -60);
            x.shift(1, 60);
            thrown(ELEMENT, () -> x.onBoard(0, 0, 1, 0));
            Lastbus y = daily(0, 0);
            ride(y, 0, 1435, 1, 1439);
            ride(y, 1, 0, 0, 9);
            due(1449, y.onBoard(3, 0, 0, 0));
            thrown(ELEMENT, () -> y.onBoard(27, 0, 0, 0));
        });
        hold(33, ON_BOARD, () -> {
            // All eight calls: as it leaves the last but one.
            due(174, full().onBoard(3, 0, 6, 2));
            due(170, full().onBoard(20, 0, 6, 2));
            due(110, full().onBoard(20, 0, 0, 1));
        });
    }

    private void onBoardRefused() {
        hold(33, "Throws `IndexOutOfBoundsException` if there is no such trip, call or stop", () -> {
            each(outside(0, 3), trip -> refused(INDEX, x -> x.onBoard(3, trip, 0, 2)));
            each(outside(0, 2), call -> refused(INDEX, x -> x.onBoard(3, 0, call, 2)));
            each(outside(0, 4), stop -> refused(INDEX, x -> x.onBoard(3, 0, 0, stop)));
            refused(INDEX, Tables::full, x -> x.onBoard(3, 0, 8, 2));
        });
        hold(33, NO_DAY, () -> each(outside(0, 27), day -> refused(ARGUMENT, x -> x.onBoard(day, 0, 0, 2))));
        hold(33, "Throws `UnsupportedOperationException` if it does not run on that day", () -> {
            refused(SUPPORT, x -> x.onBoard(3, 2, 0, 0));
            refused(SUPPORT, x -> x.onBoard(5, 2, 0, 0));
            due(505, rich().onBoard(4, 2, 0, 0));
        });
        hold(33, "or this is its last call", () -> {
            refused(SUPPORT, x -> x.onBoard(3, 0, 2, 2));
            refused(SUPPORT, x -> x.onBoard(3, 3, 0, 2));
            refused(SUPPORT, Tables::full, x -> x.onBoard(3, 0, 7, 2));
        });
        hold(33, NO_WAY, () -> {
            refused(ELEMENT, x -> x.onBoard(3, 0, 0, 4));
            refused(ELEMENT, x -> x.onBoard(4, 2, 0, 4));
            refused(ELEMENT, x -> x.onBoard(27, 0, 1, 1));
        });
        hold(33, ORDER, () -> {
            refused(INDEX, x -> x.onBoard(28, 4, 0, 2));
            refused(INDEX, x -> x.onBoard(3, 0, 2, 5));
            refused(INDEX, x -> x.onBoard(3, 2, 2, 4));
            refused(ARGUMENT, x -> x.onBoard(28, 0, 2, 4));
            refused(ARGUMENT, x -> x.onBoard(-1, 2, 0, 2));
            refused(SUPPORT, x -> x.onBoard(3, 2, 0, 4));
            refused(SUPPORT, x -> x.onBoard(3, 0, 2, 4));
        });
    }
}
