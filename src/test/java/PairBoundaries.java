/** Boundary cases of pairs and choices: promises 34, 35, 37 and 38. */
final class PairBoundaries extends Boundaries {
    private static final String PAIR = "A pair of two stops on a day is the minute, from 0 on, at which a way with a ride at "
            + "least must leave, that is the first departure less the walk ahead of it, and its arrival";
    private static final String BEATS =
            "a pair beats another one if it leaves no earlier and arrives no later, and is not the same.";
    private static final String RISING = "The pairs that are told are those that no other one beats, by rising minutes.";
    private static final String CHOICE = "A choice from a minute is a number of rides and the least arrival with so many at "
            + "most, if that is less than with fewer";
    private static final String SAME_OR_NO_DAY =
            "Throws `IllegalArgumentException` if both are the same, or there is no such day";

    PairBoundaries(Sentences doc) {
        super(doc);
    }

    @Override
    void holdAll() {
        pairsFromZero();
        pairsWithRides();
        pairsBeaten();
        pairsInOrder();
        mostPairs();
        pairsRefused();
        pairRefused();
        choices();
        choiceNumbers();
        mostChoices();
        choicesRefused();
        choiceRefused();
    }

    private void duePairs(Lastbus x, int from, int to, int day, int... leavesAndArrivals) {
        due(leavesAndArrivals.length / 2, x.pairs(from, to, day));
        for (int i = 0; i < leavesAndArrivals.length; i++) {
            due(leavesAndArrivals[i], x.pair(from, to, day, i / 2, i % 2 == 1));
        }
    }

    private void pairsFromZero() {
        hold(35, PAIR, () -> {
            Lastbus x = onDay(3, 30, 30, 30);
            x.walk(0, 1, 8);
            ride(x, 1, 7, 2, 20);
            duePairs(x, 0, 2, 3);
            duePairs(x, 1, 2, 3, 7, 20);
            x.shift(0, 1);
            duePairs(x, 0, 2, 3, 0, 21);
            x.late(3, 0, 0, 5);
            duePairs(x, 0, 2, 3, 5, 26);
        });
        hold(35, PAIR, () -> {
            // Of a run of the day ahead: below 0 one cannot leave; of the day behind one can.
            Lastbus x = onDay(3, 0, 0);
            ride(x, 0, 1439, 1, 1450);
            duePairs(x, 0, 1, 4);
            duePairs(x, 0, 1, 3, 1439, 1450);
            duePairs(x, 0, 1, 2, 2879, 2890);
            duePairs(x, 0, 1, 1);
            x.shift(0, 1);
            duePairs(x, 0, 1, 4, 0, 11);
        });
        hold(34, "from 0 on, at which a way with a ride at least must leave", () -> {
            Lastbus x = daily(0, 0);
            ride(x, 0, 1440, 1, 2879);
            due(3, x.pairs(0, 1, 3));
            due(2, x.pairs(0, 1, 0));
            due(2, x.pairs(0, 1, 27));
            x.shift(0, -1);
            due(2, x.pairs(0, 1, 3));
            due(1, x.pairs(0, 1, 27));
            duePairs(x, 0, 1, 26, 1439, 2878, 2879, 4318);
        });
    }

    private void pairsWithRides() {
        hold(34, "with a ride at least", () -> {
            Lastbus x = onDay(3, 0, 0, 0);
            x.walk(0, 1, 1);
            due(0, x.pairs(0, 1, 3));
            ride(x, 0, 100, 1, 150);
            // A walk is no pair, and beats none.
            duePairs(x, 0, 1, 3, 100, 150);
            // There and back again is a way with a ride.
            duePairs(x, 1, 0, 3, 99, 151);
            // Nor is a trip of one call.
            x.trip(0, 0, 120);
            due(1, x.pairs(0, 1, 3));
        });
        hold(35, "that is the first departure less the walk ahead of it, and its arrival", () -> {
            Lastbus x = onDay(3, 5, 5, 5, 5, 5);
            x.walk(0, 1, 4);
            ride(x, 1, 100, 2, 110);
            ride(x, 2, 115, 3, 120);
            x.walk(3, 4, 7);
            duePairs(x, 0, 4, 3, 96, 127);
            duePairs(x, 1, 3, 3, 100, 120);
            x.setChange(2, 6);
            duePairs(x, 0, 4, 3);
        });
        hold(35, "that is the first departure less the walk ahead of it, and its arrival", () -> {
            // The walk at the end begins at the first stop, or at the last one.
            for (int stop = 0; stop < 4; stop += 3) {
                Lastbus x = onDay(3, 30, 30, 30, 30);
                ride(x, 1, 100, stop, 110);
                x.walk(stop, 2, 5);
                duePairs(x, 1, 2, 3, 100, 115);
            }
        });
    }

    private void pairsBeaten() {
        hold(34, BEATS, () -> {
            Lastbus x = onDay(3, 0, 0);
            ride(x, 0, 100, 1, 110);
            duePairs(x, 0, 1, 3, 100, 110);
            // The same once more is told once.
            ride(x, 0, 100, 1, 110);
            duePairs(x, 0, 1, 3, 100, 110);
            // As late, and earlier there; later, and there at the same minute.
            ride(x, 0, 100, 1, 109);
            duePairs(x, 0, 1, 3, 100, 109);
            ride(x, 0, 101, 1, 109);
            duePairs(x, 0, 1, 3, 101, 109);
            // Later and later there: both are told.
            ride(x, 0, 102, 1, 110);
            duePairs(x, 0, 1, 3, 101, 109, 102, 110);
            ride(x, 0, 103, 1, 108);
            duePairs(x, 0, 1, 3, 103, 108);
        });
        hold(35, BEATS, () -> {
            // A way of two rides can beat one of one ride, and the other way round.
            Lastbus x = onDay(3, 0, 0, 0);
            ride(x, 0, 100, 2, 150);
            ride(x, 0, 110, 1, 120);
            ride(x, 1, 120, 2, 150);
            duePairs(x, 0, 2, 3, 110, 150);
            x.shift(0, 15);
            duePairs(x, 0, 2, 3, 110, 150, 115, 165);
            x.setChange(1, 1);
            duePairs(x, 0, 2, 3, 115, 165);
        });
    }

    private void pairsInOrder() {
        hold(35, RISING, () -> {
            Lastbus x = onDay(3, 0, 0);
            ride(x, 0, 300, 1, 310);
            ride(x, 0, 100, 1, 110);
            ride(x, 0, 200, 1, 210);
            duePairs(x, 0, 1, 3, 100, 110, 200, 210, 300, 310);
        });
        hold(34, RISING, () -> {
            Lastbus x = rich();
            due(4, x.pairs(0, 2, 3) + x.pairs(0, 2, 4));
            duePairs(x, 0, 2, 27, 480, 497);
            duePairs(x, 0, 2, 3, 480, 497, 1920, 1940);
        });
    }

    /** 24 trips that go four times from the stop 0 to the stop 1, on three days: as many pairs. */
    private static Lastbus busy() {
        Lastbus x = daily(0, 0);
        for (int trip = 0; trip < 24; trip++) {
            int time = 1440 + 50 * trip;
            ride(x, 0, time, 1, time + 5, 0, time + 10, 1, time + 15, 0, time + 20, 1, time + 25, 0, time + 30, 1, time + 35);
        }
        return x;
    }

    private void mostPairs() {
        hold(34, RISING, () -> {
            due(288, busy().pairs(0, 1, 3));
            due(192, busy().pairs(0, 1, 0));
        });
        hold(35, "`index`: from 0", () -> {
            Lastbus x = busy();
            due(0, x.pair(0, 1, 3, 0, false));
            due(5, x.pair(0, 1, 3, 0, true));
            due(10, x.pair(0, 1, 3, 1, false));
            due(2880 + 1150 + 30, x.pair(0, 1, 3, 287, false));
            due(2880 + 1150 + 35, x.pair(0, 1, 3, 287, true));
            thrown(ELEMENT, () -> x.pair(0, 1, 3, 288, true));
        });
    }

    private void pairsRefused() {
        hold(34, NO_STOPS, () -> {
            each(outside(0, 4), stop -> refused(INDEX, x -> x.pairs(stop, 0, 3)));
            each(outside(0, 4), stop -> refused(INDEX, x -> x.pairs(0, stop, 3)));
        });
        hold(34, SAME_OR_NO_DAY, () -> {
            refused(ARGUMENT, x -> x.pairs(0, 0, 3));
            refused(ARGUMENT, Tables::full, x -> x.pairs(11, 11, 3));
            each(outside(0, 27), day -> refused(ARGUMENT, x -> x.pairs(0, 2, day)));
        });
        hold(34, "`to`: another stop", () -> {
            refused(ARGUMENT, x -> x.pairs(4, 4, 3));
            due(0, rich().pairs(0, 4, 3));
        });
        hold(34, ORDER, () -> {
            refused(INDEX, x -> x.pairs(5, 5, 3));
            refused(INDEX, x -> x.pairs(0, 5, 28));
            refused(INDEX, Lastbus::new, x -> x.pairs(0, 0, 0));
        });
    }

    private void pairRefused() {
        hold(35, NO_STOPS, () -> {
            each(outside(0, 4), stop -> refused(INDEX, x -> x.pair(stop, 0, 3, 0, true)));
            each(outside(0, 4), stop -> refused(INDEX, x -> x.pair(0, stop, 3, 0, false)));
        });
        hold(35, SAME_OR_NO_DAY, () -> {
            refused(ARGUMENT, x -> x.pair(0, 0, 3, 0, true));
            each(outside(0, 27), day -> refused(ARGUMENT, x -> x.pair(0, 2, day, 0, true)));
        });
        hold(35, "`to`: another stop", () -> {
            refused(ARGUMENT, x -> x.pair(2, 2, 3, 0, false));
            due(480, rich().pair(0, 2, 3, 0, false));
        });
        hold(35, "Throws `NoSuchElementException` if there is no such pair", () -> {
            each(outside(0, 1), index -> refused(ELEMENT, x -> x.pair(0, 2, 3, index, true)));
            each(outside(0, 1), index -> refused(ELEMENT, x -> x.pair(0, 2, 3, index, false)));
            refused(ELEMENT, x -> x.pair(0, 4, 3, 0, true));
        });
        hold(35, ORDER, () -> {
            refused(INDEX, x -> x.pair(5, 5, 3, 0, true));
            refused(INDEX, x -> x.pair(0, -1, 28, -1, true));
            refused(ARGUMENT, x -> x.pair(0, 0, 3, -1, true));
            refused(ARGUMENT, x -> x.pair(0, 4, 28, 0, true));
        });
    }

    private void dueChoices(Lastbus x, int from, int to, int minute, int... choices) {
        due(choices.length, x.choices(from, to, 3, minute));
        for (int index = 0; index < choices.length; index++) {
            due(choices[index], x.choice(from, to, 3, minute, index));
        }
    }

    private void choices() {
        hold(37, CHOICE, () -> {
            Lastbus x = onDay(3, 0, 0, 0);
            ride(x, 0, 100, 2, 150);
            ride(x, 0, 100, 1, 110);
            ride(x, 1, 110, 2, 150);
            // As early with more rides is none.
            dueChoices(x, 0, 2, 100, 5150);
            x.shift(0, 1);
            dueChoices(x, 0, 2, 100, 5151, 10150);
            x.walk(0, 2, 51);
            dueChoices(x, 0, 2, 100, 151, 10150);
            x.walk(0, 2, 52);
            dueChoices(x, 0, 2, 100, 152, 5151, 10150);
            x.walk(0, 2, 50);
            dueChoices(x, 0, 2, 100, 150);
        });
        hold(37, "`minute`: 0 to 1439, when one begins", () -> {
            Lastbus x = onDay(3, 0, 0);
            ride(x, 0, 0, 1, 1);
            ride(x, 0, 1439, 1, 1440);
            dueChoices(x, 0, 1, 0, 5001);
            dueChoices(x, 0, 1, 1439, 6440);
        });
        hold(37, "Returns how many, 0 if there is no way.", () -> {
            due(0, rich().choices(0, 4, 3, 470));
            due(0, rich().choices(0, 1, 27, 481));
            due(1, rich().choices(4, 4, 27, 1439));
            due(2, rich().choices(0, 2, 3, 470));
        });
    }

    private void choiceNumbers() {
        hold(38, "`minute`: 0 to 1439, when one begins", () -> {
            // Staying is the choice of no ride.
            due(0, rich().choice(4, 4, 0, 0, 0));
            due(1439, rich().choice(0, 0, 27, 1439, 0));
        });
        hold(38, "`index`: from 0", () -> {
            Lastbus x = rich();
            due(5500, x.choice(0, 2, 5, 470, 0));
            due(10497, x.choice(0, 2, 5, 470, 1));
            thrown(ELEMENT, () -> x.choice(0, 2, 5, 470, 2));
        });
        hold(38, "Returns 5000 times the number of rides, and the arrival.", () -> {
            Lastbus x = onDay(4, 0, 0);
            ride(x, 0, 2878, 1, 2879);
            x.late(4, 0, 0, 120);
            due(5000 + 4439, x.choice(0, 1, 3, 0, 0));
            x.walk(0, 1, 60);
            due(1499, x.choice(0, 1, 3, 1439, 0));
        });
    }

    private void mostChoices() {
        hold(38, "choices are told by rising numbers of rides.", () -> {
            Lastbus x = onDay(3, 0, 0, 0, 0, 0, 0, 0, 0, 0, 0, 0, 0);
            for (int stop = 0; stop < 11; stop++) {
                ride(x, stop, 100 + 10 * stop, stop + 1, 105 + 10 * stop);
            }
            for (int stop = 0; stop < 10; stop++) {
                ride(x, stop, 100 + 10 * stop, 11, 900 - 10 * stop);
            }
            int[] due = new int[11];
            for (int rides = 1; rides < 11; rides++) {
                due[rides - 1] = 5000 * rides + 910 - 10 * rides;
            }
            due[10] = 55205;
            dueChoices(x, 0, 11, 100, due);
            thrown(ELEMENT, () -> x.choice(0, 11, 3, 100, 11));
        });
    }

    private void choicesRefused() {
        hold(37, NO_STOPS, () -> {
            each(outside(0, 4), stop -> refused(INDEX, x -> x.choices(stop, 0, 3, 470)));
            each(outside(0, 4), stop -> refused(INDEX, x -> x.choices(0, stop, 3, 470)));
        });
        hold(37, DAY_OR_MINUTE, () -> {
            each(outside(0, 27), day -> refused(ARGUMENT, x -> x.choices(0, 2, day, 470)));
            each(outside(0, 1439), minute -> refused(ARGUMENT, x -> x.choices(0, 0, 3, minute)));
        });
        hold(37, ORDER, () -> {
            refused(INDEX, x -> x.choices(5, 0, 28, 470));
            refused(INDEX, x -> x.choices(0, 5, 3, 1440));
        });
    }

    private void choiceRefused() {
        hold(38, NO_STOPS, () -> {
            each(outside(0, 4), stop -> refused(INDEX, x -> x.choice(stop, 0, 3, 470, 0)));
            each(outside(0, 4), stop -> refused(INDEX, x -> x.choice(0, stop, 3, 470, 0)));
        });
        hold(38, DAY_OR_MINUTE, () -> {
            each(outside(0, 27), day -> refused(ARGUMENT, x -> x.choice(0, 2, day, 470, 0)));
            each(outside(0, 1439), minute -> refused(ARGUMENT, x -> x.choice(0, 0, 3, minute, 0)));
        });
        hold(38, "Throws `NoSuchElementException` if there is no such choice", () -> {
            each(outside(0, 1), index -> refused(ELEMENT, x -> x.choice(0, 2, 3, 470, index)));
            refused(ELEMENT, x -> x.choice(0, 4, 3, 470, 0));
            refused(ELEMENT, x -> x.choice(4, 4, 3, 470, 1));
        });
        hold(38, ORDER, () -> {
            refused(INDEX, x -> x.choice(5, 0, 28, 470, -1));
            refused(INDEX, x -> x.choice(0, 5, 3, 1440, 9));
            refused(ARGUMENT, x -> x.choice(0, 4, 28, 470, 0));
            refused(ARGUMENT, x -> x.choice(0, 2, 3, -1, -1));
        });
    }
}
