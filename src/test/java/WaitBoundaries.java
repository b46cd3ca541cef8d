/** Boundary cases of changes, wishes and waiting: promises 39 to 43. */
final class WaitBoundaries extends Boundaries {
    private static final String HOLDS = "Tells whether a change holds: whether one can get on the other trip, coming by the "
            + "one, changing at the stop, or by the walk to its stop.";
    private static final String NO_CALLS = NO_CALL + ", for either";
    private static final String LATENESS = "The lateness of departures then: that of a call is the greatest of what is told, "
            + "that of the call ahead of it in the trip, and, for each wish that is held and leads to this call, how much later "
            + "than its departure the arrival of the other trip, as late as its call ahead departs, and the minutes for "
            + "changing are; all at once, being the least lateness for which all of this holds.";
    private static final String LIMIT = "It cannot be if some lateness would be more than 240.";
    private static final String COST = "The cost is the lateness of the arrival at the last call of each trip that runs, and 60 "
            + "for each traveller of a wish that is not held and missed: if the arrival and the minutes for changing are later "
            + "than the departure then.";

    WaitBoundaries(Sentences doc) {
        super(doc);
    }

    @Override
    void holdAll() {
        holds();
        holdsCalls();
        holdsRefused();
        holdsOrder();
        wish();
        wishRefused();
        dropWishes();
        cost();
        costOfLast();
        masks();
        lateness();
        rings();
        limits();
        waitCostRefused();
        bestWaits();
        bestOfAll();
    }

    /** The trip 0 comes to the stop 1 at 110, from where the trip 1 leaves: 4 minutes take it to change. */
    private static Lastbus change(int departure) {
        Lastbus x = onDay(3, 0, 4, 0);
        ride(x, 0, 100, 1, 110);
        ride(x, 1, departure, 2, departure + 10);
        return x;
    }

    private void holds() {
        hold(39, HOLDS, () -> {
            due(true, change(114).holds(3, 0, 1, 1, 0));
            due(false, change(113).holds(3, 0, 1, 1, 0));
            due(true, change(2000).holds(3, 0, 1, 1, 0));
            due(false, change(0).holds(3, 0, 1, 1, 0));
            Lastbus x = change(110);
            due(false, x.holds(3, 0, 1, 1, 0));
            x.setChange(1, 0);
            due(true, x.holds(3, 0, 1, 1, 0));
        });
        hold(39, HOLDS, () -> {
            // By a walk no minutes for changing are needed; of told walks the least sum.
            Lastbus x = onDay(3, 0, 30, 0, 30);
            ride(x, 0, 100, 1, 110);
            ride(x, 3, 120, 2, 130);
            x.walk(1, 3, 11);
            due(false, x.holds(3, 0, 1, 1, 0));
            x.walk(1, 0, 5);
            x.walk(0, 3, 5);
            due(true, x.holds(3, 0, 1, 1, 0));
            x.shift(1, -1);
            due(false, x.holds(3, 0, 1, 1, 0));
        });
        hold(39, HOLDS, () -> {
            // With lateness: that of the arrival is that of the departure ahead.
            Lastbus x = change(114);
            x.late(3, 0, 1, 120);
            due(true, x.holds(3, 0, 1, 1, 0));
            x.late(3, 0, 0, 1);
            due(false, x.holds(3, 0, 1, 1, 0));
            x.late(3, 1, 1, 120);
            due(false, x.holds(3, 0, 1, 1, 0));
            x.late(3, 1, 0, 1);
            due(true, x.holds(3, 0, 1, 1, 0));
        });
    }

    private void holdsCalls() {
        hold(39, "A change leads from a call of a trip to a call of another one.", () -> {
            Lastbus x = rich();
            due(true, x.holds(5, 0, 1, 1, 0));
            due(true, x.holds(4, 0, 1, 2, 0));
            due(false, x.holds(4, 2, 1, 0, 0));
        });
        hold(39, "`call`: the call at which one gets off, not 0", () -> {
            refused(ARGUMENT, x -> x.holds(3, 0, 0, 1, 0));
            due(true, rich().holds(3, 0, 1, 1, 0));
            thrown(ELEMENT, () -> rich().holds(3, 0, 2, 1, 0));
        });
        hold(39, "`otherCall`: the call at which one gets on, not the last one", () -> {
            refused(ARGUMENT, x -> x.holds(3, 0, 1, 1, 1));
            refused(ARGUMENT, x -> x.holds(3, 1, 1, 0, 2));
            refused(ARGUMENT, x -> x.holds(3, 0, 1, 3, 0));
            Lastbus x = rich();
            x.call(1, 0, 520, 520);
            due(false, x.holds(3, 0, 2, 1, 1));
        });
        hold(39, "`other`: the other trip", () -> refused(ARGUMENT, x -> x.holds(3, 0, 1, 0, 1)));
        hold(39, "`day`: the day on which both run", () -> {
            due(true, rich().holds(0, 0, 1, 1, 0));
            due(true, rich().holds(27, 0, 1, 1, 0));
        });
    }

    private void holdsRefused() {
        hold(39, NO_CALLS, () -> {
            each(outside(0, 3), trip -> refused(INDEX, x -> x.holds(3, trip, 1, 1, 0)));
            each(outside(0, 3), trip -> refused(INDEX, x -> x.holds(3, 0, 1, trip, 0)));
            each(outside(0, 2), call -> refused(INDEX, x -> x.holds(3, 0, call, 1, 0)));
            each(outside(0, 1), call -> refused(INDEX, x -> x.holds(3, 0, 1, 1, call)));
        });
        hold(39, NO_DAY, () -> each(outside(0, 27), day -> refused(ARGUMENT, x -> x.holds(day, 0, 1, 1, 0))));
        hold(39, "both trips are the same", () -> {
            refused(ARGUMENT, x -> x.holds(3, 0, 1, 0, 0));
            refused(ARGUMENT, x -> x.holds(3, 0, 2, 0, 0));
        });
        hold(39, "or a call is not as told", () -> {
            refused(ARGUMENT, x -> x.holds(3, 1, 0, 0, 0));
            refused(ARGUMENT, x -> x.holds(4, 0, 1, 2, 1));
        });
        hold(39, "Throws `UnsupportedOperationException` if one does not run on that day", () -> {
            refused(SUPPORT, x -> x.holds(3, 0, 1, 2, 0));
            refused(SUPPORT, x -> x.holds(5, 2, 1, 0, 0));
            due(true, rich().holds(4, 0, 1, 2, 0));
        });
        hold(39, "Throws `NoSuchElementException` if the stops are not the same, and there is no walk", () -> {
            refused(ELEMENT, x -> x.holds(3, 0, 2, 1, 0));
            Lastbus x = rich();
            x.walk(2, 1, 1);
            due(false, x.holds(3, 0, 2, 1, 0));
            x.walk(2, 1, 0);
            x.walk(3, 1, 1);
            due(false, x.holds(3, 0, 2, 1, 0));
        });
    }

    private void holdsOrder() {
        hold(39, ORDER, () -> {
            refused(INDEX, x -> x.holds(28, 4, 1, 1, 0));
            refused(INDEX, x -> x.holds(28, 0, 1, 1, 2));
            refused(INDEX, x -> x.holds(3, 0, 0, 4, 0));
            refused(INDEX, x -> x.holds(3, 0, 3, 0, 3));
            refused(INDEX, x -> x.holds(3, 2, 2, 1, 0));
            refused(ARGUMENT, x -> x.holds(28, 0, 1, 2, 0));
            refused(ARGUMENT, x -> x.holds(3, 2, 1, 2, 0));
            refused(ARGUMENT, x -> x.holds(3, 0, 0, 2, 0));
            refused(ARGUMENT, x -> x.holds(3, 0, 2, 2, 1));
            refused(SUPPORT, x -> x.holds(3, 0, 2, 2, 0));
        });
    }

    private void wish() {
        hold(40, "A wish is a change at one stop, of 1 to 99 travellers; at most 6 are numbered from 0.", () -> {
            Lastbus x = change(110);
            for (int wish = 0; wish < 6; wish++) {
                due(wish, x.wish(0, 1, 1, 0, wish % 2 == 0 ? 1 : 99));
            }
            due(60 * (3 + 3 * 99), x.waitCost(3, 0));
            thrown(STATE, () -> x.wish(0, 1, 1, 0, 1));
            due(6, x.dropWishes());
            due(0, x.wish(0, 1, 1, 0, 1));
        });
        hold(40, "`travellers`: how many, 1 to 99", () -> {
            Lastbus x = change(110);
            x.wish(0, 1, 1, 0, 1);
            due(60, x.waitCost(3, 0));
            x.dropWishes();
            x.wish(0, 1, 1, 0, 99);
            due(5940, x.waitCost(3, 0));
        });
        hold(40, "`call`: the call at which they get off, not 0", () -> {
            refused(ARGUMENT, x -> x.wish(2, 0, 0, 1, 5));
            due(2, rich().wish(2, 1, 0, 0, 5));
        });
        hold(40, "`otherCall`: the call at which they get on, not the last one", () -> {
            refused(ARGUMENT, x -> x.wish(0, 2, 1, 1, 5));
            refused(ARGUMENT, x -> x.wish(0, 2, 3, 0, 5));
            Lastbus x = rich();
            x.call(3, 0, 1440, 1440);
            due(2, x.wish(0, 2, 3, 0, 5));
        });
        hold(40, "`other`: the other trip", () -> refused(ARGUMENT, x -> x.wish(0, 1, 0, 1, 5)));
    }

    private void wishRefused() {
        hold(40, NO_CALLS, () -> {
            each(outside(0, 3), trip -> refused(INDEX, x -> x.wish(trip, 1, 1, 0, 5)));
            each(outside(0, 3), trip -> refused(INDEX, x -> x.wish(0, 1, trip, 0, 5)));
            each(outside(0, 2), call -> refused(INDEX, x -> x.wish(0, call, 1, 0, 5)));
            each(outside(0, 1), call -> refused(INDEX, x -> x.wish(0, 1, 1, call, 5)));
        });
        hold(40, "if both trips are the same, a call is not as told, or a number is out of range", () -> {
            each(outside(1, 99), travellers -> refused(ARGUMENT, x -> x.wish(0, 1, 1, 0, travellers)));
            refused(ARGUMENT, () -> returning(), x -> x.wish(0, 2, 0, 0, 5));
        });
        hold(40, "Throws `UnsupportedOperationException` if the stops are not the same", () -> {
            refused(SUPPORT, x -> x.wish(0, 2, 1, 0, 5));
            // Not even by a walk.
            refused(SUPPORT, WaitBoundaries::walkable, x -> x.wish(0, 2, 1, 0, 5));
        });
        hold(40, "Throws `IllegalStateException` if there are 6", () -> {
            refused(STATE, Tables::full, x -> x.wish(0, 7, 1, 0, 1));
            refused(STATE, Tables::full, x -> x.wish(0, 7, 1, 0, 99));
        });
        hold(40, ORDER, () -> {
            refused(INDEX, x -> x.wish(4, 1, 4, 0, 0));
            refused(INDEX, x -> x.wish(0, 0, 1, 2, 100));
            refused(INDEX, x -> x.wish(0, 2, 1, 2, 5));
            refused(INDEX, Tables::full, x -> x.wish(0, 8, 1, 0, 1));
            refused(ARGUMENT, x -> x.wish(0, 2, 1, 0, 0));
            refused(ARGUMENT, x -> x.wish(1, 0, 0, 0, 5));
            refused(ARGUMENT, Tables::full, x -> x.wish(0, 7, 1, 0, 100));
            refused(ARGUMENT, Tables::full, x -> x.wish(0, 0, 1, 0, 1));
            refused(SUPPORT, Tables::full, x -> x.wish(0, 6, 1, 0, 1));
        });
    }

    private static Lastbus returning() {
        Lastbus x = daily(0, 0);
        ride(x, 0, 100, 1, 110, 0, 120);
        return x;
    }

    private static Lastbus walkable() {
        Lastbus x = rich();
        x.walk(2, 1, 1);
        return x;
    }

    private void dropWishes() {
        hold(41, "Drops all wishes.", () -> {
            Lastbus x = full();
            due(6, x.dropWishes());
            thrown(ARGUMENT, () -> x.waitCost(20, 1));
            due(0, x.waitCost(20, 0));
            due(0, x.bestWaits(20));
            due(0, x.wish(0, 7, 1, 0, 1));
        });
        hold(41, "Returns how many they were.", () -> {
            Lastbus x = rich();
            due(2, x.dropWishes());
            due(0, x.dropWishes());
            due(0, new Lastbus().dropWishes());
        });
    }

    private void cost() {
        hold(42, COST, () -> {
            Lastbus x = change(114);
            x.wish(0, 1, 1, 0, 7);
            due(0, x.waitCost(3, 0));
            due(0, x.waitCost(3, 1));
            x.shift(1, -1);
            due(420, x.waitCost(3, 0));
            due(1, x.waitCost(3, 1));
            // By their own lateness trips can catch, or miss, one another.
            x.late(3, 1, 0, 1);
            due(1, x.waitCost(3, 0));
            x.late(3, 0, 0, 1);
            due(2 + 420, x.waitCost(3, 0));
            due(1 + 2, x.waitCost(3, 1));
        });
        hold(42, "A trip of one call has no lateness of an arrival.", () -> {
            Lastbus x = onDay(3, 0, 0);
            x.trip(0, 0, 100);
            x.late(3, 0, 0, 120);
            due(0, x.waitCost(3, 0));
            x.call(0, 1, 110, 110);
            due(120, x.waitCost(3, 0));
        });
        hold(42, "On a day the wishes count of which both trips run on it.", () -> {
            Lastbus x = stops(0, 4, 0);
            x.service();
            x.service();
            x.putDay(0, 3, true);
            x.putDay(0, 4, true);
            x.putDay(1, 4, true);
            x.putDay(1, 5, true);
            ride(x, 0, 100, 1, 110);
            x.trip(1, 1, 112);
            x.call(1, 2, 120, 120);
            x.wish(0, 1, 1, 0, 3);
            due(0, x.waitCost(3, 0));
            due(180, x.waitCost(4, 0));
            due(0, x.waitCost(5, 0));
            due(0, x.waitCost(3, 1));
            due(2, x.waitCost(4, 1));
            due(0, x.waitCost(5, 1));
        });
    }

    private void costOfLast() {
        hold(42, COST, () -> {
            // The lateness of the arrival at the last call is that of the departure ahead of it, not that of the call itself.
            Lastbus x = onDay(3, 0, 0, 0);
            ride(x, 0, 100, 1, 110, 2, 120);
            x.late(3, 0, 2, 50);
            due(0, x.waitCost(3, 0));
            x.late(3, 0, 1, 50);
            due(50, x.waitCost(3, 0));
            due(0, x.waitCost(4, 0));
            x.late(4, 0, 0, 50);
            // On the day 4 it does not run.
            due(0, x.waitCost(4, 0));
            x.call(0, 0, 130, 130);
            due(50, x.waitCost(3, 0));
        });
        hold(42, COST, () -> {
            // All 24 trips as late as can be, of which 12 can be told.
            Lastbus x = onDay(3, 0, 0);
            for (int trip = 0; trip < 24; trip++) {
                ride(x, 0, 100, 1, 110);
            }
            for (int trip = 0; trip < 12; trip++) {
                x.late(3, 2 * trip, 0, 120);
            }
            due(1440, x.waitCost(3, 0));
        });
    }

    /** Six wishes on which 1, 2, 4 .. travellers depend; the trips that are caught are of two services by turns. */
    private static Lastbus sixWishes(boolean isEachOn) {
        Lastbus x = onDay(3, 0, 0, 0);
        x.service();
        x.putDay(1, 3, isEachOn);
        ride(x, 0, 100, 1, 110);
        for (int wish = 0; wish < 6; wish++) {
            x.trip(wish % 2, 1, 109);
            x.call(wish + 1, 2, 120, 120);
            x.wish(0, 1, wish + 1, 0, 1 << wish);
        }
        return x;
    }

    private void masks() {
        hold(42, "A mask tells which wishes are held, 2 to the power of each", () -> {
            Lastbus x = sixWishes(true);
            for (int mask = 0; mask < 64; mask++) {
                due(60 * (63 - mask) + Integer.bitCount(mask), x.waitCost(3, mask));
            }
        });
        hold(42, "the bit of a wish that does not count changes nothing.", () -> {
            Lastbus x = sixWishes(false);
            for (int mask = 0; mask < 64; mask++) {
                int held = mask & 1 + 4 + 16;
                due(60 * (1 + 4 + 16 - held) + Integer.bitCount(held), x.waitCost(3, mask));
                due(0, x.waitCost(4, mask));
            }
        });
        hold(42, "On a day the wishes count of which both trips run on it.", () -> {
            // The trip that brings does not run, and then the one that is caught.
            Lastbus x = onDay(3, 0, 0, 0);
            x.service();
            ride(x, 0, 100, 1, 110);
            x.trip(1, 1, 109);
            x.call(1, 2, 120, 120);
            x.wish(0, 1, 1, 0, 1);
            due(0, x.waitCost(3, 0));
            due(0, x.waitCost(3, 1));
            x.putDay(1, 3, true);
            due(60, x.waitCost(3, 0));
            due(1, x.waitCost(3, 1));
            x.putDay(0, 3, false);
            due(0, x.waitCost(3, 0));
            due(0, x.waitCost(3, 1));
        });
    }

    private void lateness() {
        hold(42, LATENESS, () -> {
            // One behind the other, told from the last one: the lateness goes on along the trips.
            Lastbus x = onDay(3, 3, 3, 3, 3, 3);
            ride(x, 0, 100, 1, 110);
            ride(x, 1, 112, 2, 120);
            ride(x, 2, 122, 3, 130);
            ride(x, 3, 132, 4, 140);
            x.wish(2, 1, 3, 0, 1);
            x.wish(1, 1, 2, 0, 1);
            x.wish(0, 1, 1, 0, 1);
            due(1 + 2 + 3, x.waitCost(3, 7));
            due(180, x.waitCost(3, 0));
            due(1 + 60 + 60, x.waitCost(3, 4));
            due(1 + 2 + 60, x.waitCost(3, 6));
            x.late(3, 2, 0, 10);
            due(1 + 10 + 60, x.waitCost(3, 6));
            due(1 + 10 + 11, x.waitCost(3, 7));
        });
        hold(42, "the greatest of what is told, that of the call ahead of it in the trip", () -> {
            // Along all eight calls of a trip, behind the one at which it waits.
            Lastbus x = onDay(3, 0, 0);
            ride(x, 0, 100, 1, 110);
            ride(x, 1, 100, 0, 120, 1, 130, 0, 140, 1, 150, 0, 160, 1, 170, 0, 180);
            ride(x, 0, 175, 1, 190);
            x.wish(0, 1, 1, 0, 1);
            x.wish(1, 7, 2, 0, 1);
            due(10 + 15, x.waitCost(3, 3));
            due(10 + 60, x.waitCost(3, 1));
            due(60 + 5, x.waitCost(3, 2));
        });
        hold(42, "the greatest of what is told, that of the call ahead of it in the trip", () -> {
            Lastbus x = onDay(3, 0, 0, 0, 0);
            ride(x, 0, 100, 1, 110);
            ride(x, 3, 90, 1, 100, 2, 120);
            x.wish(0, 1, 1, 1, 1);
            due(10, x.waitCost(3, 1));
            x.late(3, 1, 0, 9);
            due(10, x.waitCost(3, 1));
            x.late(3, 1, 0, 11);
            due(11, x.waitCost(3, 1));
            x.late(3, 1, 2, 120);
            due(10, x.waitCost(3, 1));
        });
        hold(42, "as late as its call ahead departs", () -> {
            Lastbus x = onDay(3, 0, 0, 0);
            ride(x, 0, 100, 1, 110);
            ride(x, 1, 110, 2, 120);
            x.wish(0, 1, 1, 0, 1);
            x.late(3, 0, 1, 50);
            due(0, x.waitCost(3, 1));
            x.late(3, 0, 0, 50);
            due(100, x.waitCost(3, 1));
        });
    }

    private void rings() {
        hold(42, "all at once, being the least lateness for which all of this holds.", () -> {
            // Each waits for the other one, but where that one has not yet waited.
            Lastbus x = onDay(3, 0, 0, 0, 0);
            ride(x, 2, 100, 0, 110, 1, 120, 2, 130);
            ride(x, 3, 100, 1, 110, 0, 120, 3, 130);
            x.wish(0, 1, 1, 2, 1);
            x.wish(1, 1, 0, 2, 1);
            due(0, x.waitCost(3, 3));
            x.late(3, 0, 0, 15);
            due(15 + 60, x.waitCost(3, 0));
            due(15 + 5, x.waitCost(3, 3));
            x.late(3, 1, 0, 40);
            due(15 + 40 + 60, x.waitCost(3, 0));
            due(30 + 40, x.waitCost(3, 3));
        });
        hold(42, LIMIT, () -> {
            // Each makes the other one wait longer, and so on for ever.
            Lastbus x = onDay(3, 0, 0, 0, 0);
            ride(x, 2, 100, 0, 110, 1, 120);
            ride(x, 3, 100, 1, 110, 0, 120);
            x.wish(0, 2, 1, 1, 1);
            x.wish(1, 2, 0, 1, 1);
            due(120, x.waitCost(3, 0));
            due(10 + 60, x.waitCost(3, 1));
            due(10 + 60, x.waitCost(3, 2));
            thrown(ELEMENT, () -> x.waitCost(3, 3));
            due(1, x.bestWaits(3));
            // Also if it grows by two minutes a turn from an even beginning.
            x.shift(1, -10);
            thrown(ELEMENT, () -> x.waitCost(3, 3));
        });
    }

    /** The trip 1 must wait for the trip 0 by so many minutes, with none for changing. */
    private static Lastbus waiting(int minutes) {
        Lastbus x = onDay(3, 0, 0, 0, 0);
        ride(x, 0, 100, 1, 400);
        ride(x, 1, 400 - minutes, 2, 405 - minutes);
        x.wish(0, 1, 1, 0, 9);
        return x;
    }

    private void limits() {
        hold(42, LIMIT, () -> {
            due(240, waiting(240).waitCost(3, 1));
            refused(ELEMENT, () -> waiting(241), x -> x.waitCost(3, 1));
            due(540, waiting(241).waitCost(3, 0));
            Lastbus x = waiting(240);
            x.setChange(1, 1);
            thrown(ELEMENT, () -> x.waitCost(3, 1));
            due(0, x.bestWaits(3));
        });
        hold(42, LIMIT, () -> {
            // What is told counts in it: by it the trip that is waited for comes later.
            Lastbus x = waiting(120);
            x.late(3, 0, 0, 120);
            due(120 + 240, x.waitCost(3, 1));
            x.late(3, 1, 0, 120);
            due(120 + 240, x.waitCost(3, 1));
            x.shift(1, -1);
            thrown(ELEMENT, () -> x.waitCost(3, 1));
            due(120 + 120 + 540, x.waitCost(3, 0));
        });
        hold(42, LIMIT, () -> {
            // Behind one another: the second trip that waits is later than the first one.
            Lastbus x = waiting(230);
            ride(x, 2, 405 - 240, 3, 406 - 240);
            x.wish(1, 1, 2, 0, 1);
            due(230 + 240, x.waitCost(3, 3));
            x.shift(2, -1);
            thrown(ELEMENT, () -> x.waitCost(3, 3));
            due(230 + 60, x.waitCost(3, 1));
            due(11 + 540, x.waitCost(3, 2));
        });
    }

    private void waitCostRefused() {
        hold(42, NO_DAY, () -> each(outside(0, 27), day -> refused(ARGUMENT, x -> x.waitCost(day, 0))));
        hold(42, "or the mask names a wish that is not there, or is below 0", () -> {
            each(outside(0, 3), mask -> refused(ARGUMENT, x -> x.waitCost(3, mask)));
            each(outside(0, 0), mask -> refused(ARGUMENT, Lastbus::new, x -> x.waitCost(3, mask)));
            each(outside(0, 63), mask -> refused(ARGUMENT, Tables::full, x -> x.waitCost(20, mask)));
            refused(ARGUMENT, x -> x.waitCost(3, 1 << 6));
            due(0, rich().waitCost(5, 3));
            due(0, full().waitCost(20, 63));
        });
        hold(42, "Throws `NoSuchElementException` if it cannot be", () ->
                refused(ELEMENT, () -> waiting(300), x -> x.waitCost(3, 1)));
        hold(42, ORDER, () -> {
            refused(ARGUMENT, () -> waiting(300), x -> x.waitCost(28, 1));
            refused(ARGUMENT, () -> waiting(300), x -> x.waitCost(3, 3));
            refused(ARGUMENT, () -> waiting(300), x -> x.waitCost(3, -1));
        });
    }

    private void bestWaits() {
        hold(43, "Returns the mask of the least cost, of like ones the least mask.", () -> {
            // An hour of waiting is as dear as one traveller who misses it.
            Lastbus x = waiting(60);
            x.dropWishes();
            x.wish(0, 1, 1, 0, 1);
            due(60, x.waitCost(3, 0));
            due(60, x.waitCost(3, 1));
            due(0, x.bestWaits(3));
            x.shift(1, 1);
            due(1, x.bestWaits(3));
            x.shift(1, -2);
            due(0, x.bestWaits(3));
        });
        hold(43, "Returns the mask of the least cost, of like ones the least mask.", () -> {
            // What needs no waiting, does not count, or cannot be, is not held.
            due(0, rich().bestWaits(3));
            due(0, rich().bestWaits(5));
            due(0, waiting(241).bestWaits(3));
            due(1, waiting(240).bestWaits(3));
            due(0, waiting(240).bestWaits(4));
            due(0, new Lastbus().bestWaits(27));
        });
        hold(43, NO_DAY, () -> each(outside(0, 27), day -> refused(ARGUMENT, x -> x.bestWaits(day))));
    }

    private void bestOfAll() {
        hold(43, "Returns the mask of the least cost, of like ones the least mask.", () -> {
            due(63, sixWishes(true).bestWaits(3));
            due(1 + 4 + 16, sixWishes(false).bestWaits(3));
            // The same wish twice: to hold one of them is enough, and the first one is the least mask.
            Lastbus x = waiting(100);
            for (int wish = 1; wish < 6; wish++) {
                x.wish(0, 1, 1, 0, 9);
            }
            due(100, x.waitCost(3, 1));
            due(100, x.waitCost(3, 32));
            due(100, x.waitCost(3, 63));
            due(1, x.bestWaits(3));
        });
    }
}
