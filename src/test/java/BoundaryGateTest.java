import java.util.function.Supplier;

/** Promises 25 to 34, sentence by sentence: the boundary cases. */
public final class BoundaryGateTest {
    private static final char[] KINDS = {'p', 'l'};

    private static final Check CHECK = new Check("BoundaryGateTest");
    private static final Boundary BOUNDARY = new Boundary(CHECK);

    public static void main(String[] args) {
        bookNumbersFrom0To29();
        bookNoSuchBoxOrLane();
        bookHourNotBehindThisOne();
        bookHourAbove999();
        bookInAHold();
        bookBoxHasOne();
        bookLaneHasOne();
        bookThirty();
        bookOrder();
        bookRefusedTakesNoNumber();
        cancelTellsHowManyAreBooked();
        cancelNoSuchAppointment();
        cancelNotBooked();
        stateOfEach();
        stateOfNoSuchAppointment();
        appointmentOfFirstAndLast();
        appointmentOfNone();
        appointmentOfNoSuchBox();
        inLaneHourFrom0To999();
        inLaneNone();
        inLaneNoSuchLane();
        firstHourIsTheNext();
        firstHourBehindAHold();
        firstHourBehindFullHours();
        firstHourNone();
        firstHourNoSuchBox();
        passFrom1To24();
        passUpTo999();
        passOver999();
        passTellsHowManyLeave();
        passRefusedLetsNothingHappen();
        nowFrom0To999();
        weightLeftFromNoneToAll();
        doneShareNone();
        doneShareFrom0To1();
        CHECK.end();
    }

    /** Promise 25, "Returns the number of the appointment": from 0 to 29. */
    private static void bookNumbersFrom0To29() {
        Quaylock yard = Scenes.four();
        for (int number = 0; number < 30; number++) {
            CHECK.same("promise 25, number " + number, yard.book(number % 4, 500 + number, number % 3), number);
            CHECK.same("promise 25, its state", yard.stateOf(number), 'b');
            yard.cancel(number);
        }
    }

    /** Promise 25, "Throws IndexOutOfBoundsException if there is no such box in the yard, or no such lane". */
    private static void bookNoSuchBoxOrLane() {
        BOUNDARY.boxesNotInTheYard("promise 25, book", (x, box) -> x.book(box, 500, 0));
        BOUNDARY.lanesThatAreNot("promise 25, book", (x, lane) -> x.book(0, 500, lane));
        BOUNDARY.boxesNotInTheYard("promise 25, book with no such lane either", (x, box) -> x.book(box, 500, 3));
        CHECK.same("promise 25, the first lane", Scenes.four().book(0, 500, 0), 0);
        CHECK.same("promise 25, the last lane", Scenes.four().book(0, 500, 2), 0);
    }

    private static Quaylock oneBox(int hour) {
        return Scenes.at(hour, Scenes.yard("1", "5@0"));
    }

    /** Promise 25, "Throws IllegalArgumentException if the hour is not behind this one". */
    private static void bookHourNotBehindThisOne() {
        for (int now : new int[] {0, 1, 10, 998}) {
            CHECK.same("promise 25, the next hour, in " + now, oneBox(now).book(0, now + 1, 0), 0);
        }
        for (int now : new int[] {0, 1, 10, 998, 999}) {
            for (int hour : new int[] {now, now - 1, 0, -1}) {
                CHECK.refused("promise 25, hour " + hour + " in " + now, () -> oneBox(now), x -> x.book(0, hour, 0),
                        Boundary.WRONG);
            }
        }
    }

    /** Promise 25, "Throws IllegalArgumentException if the hour is [..] greater than 999". */
    private static void bookHourAbove999() {
        for (int now : new int[] {0, 10, 998}) {
            CHECK.same("promise 25, hour 999 in " + now, oneBox(now).book(0, 999, 2), 0);
        }
        for (int now : new int[] {0, 10, 998, 999}) {
            for (int hour : new int[] {1000, 1001}) {
                CHECK.refused("promise 25, hour " + hour + " in " + now, () -> oneBox(now), x -> x.book(0, hour, 0),
                        Boundary.WRONG);
            }
        }
        for (int hour : new int[] {Integer.MIN_VALUE, Integer.MAX_VALUE, -(1 << 30), 1 << 30, 1 << 16}) {
            CHECK.refused("promise 25, hour " + hour, Scenes::four, x -> x.book(0, hour, 0), Boundary.WRONG);
        }
    }

    /** Promise 25, "Throws UnsupportedOperationException if the box has a hold that lasts in this hour". */
    private static void bookInAHold() {
        for (char kind : KINDS) {
            for (int hour : new int[] {11, 18, 19}) {
                CHECK.refused("promise 25, hour " + hour + " in a hold up to 20",
                        () -> Scenes.held(2, kind, 20, Scenes.four()), x -> x.book(2, hour, 0), Boundary.CANNOT);
            }
            CHECK.same("promise 25, the hour up to which the hold lasts",
                    Scenes.held(2, kind, 20, Scenes.four()).book(2, 20, 0), 0);
            CHECK.same("promise 25, the next hour, up to which the hold lasts",
                    Scenes.held(2, kind, 11, Scenes.four()).book(2, 11, 0), 0);
            CHECK.refused("promise 25, the last hour in a hold for good",
                    () -> Scenes.held(2, kind, 1000, Scenes.four()), x -> x.book(2, 999, 0), Boundary.CANNOT);
            CHECK.same("promise 25, the last hour, up to which the hold lasts",
                    Scenes.held(2, kind, 999, Scenes.four()).book(2, 999, 0), 0);
            CHECK.same("promise 25, another box is held", Scenes.held(1, kind, 1000, Scenes.four()).book(2, 11, 0), 0);
            Quaylock released = Scenes.held(2, kind, 1000, Scenes.four());
            released.release(2);
            CHECK.same("promise 25, the hold was ended", released.book(2, 11, 0), 0);
        }
    }

    /** Promise 25, "Throws IllegalStateException if the box has a booked appointment". */
    private static void bookBoxHasOne() {
        CHECK.refused("promise 25, the box has one, another hour and lane", Scenes::oneBooked, x -> x.book(2, 21, 1),
                Boundary.STATE);
        CHECK.refused("promise 25, the box has one, the same hour", Scenes::oneBooked, x -> x.book(2, 20, 1),
                Boundary.STATE);
        CHECK.same("promise 25, the box's was cancelled", Scenes.cancelled(0, Scenes.oneBooked()).book(2, 21, 1), 1);
        CHECK.same("promise 25, the box's was missed", Scenes.missed().book(0, 12, 0), 1);
        CHECK.same("promise 25, the box's was given back", Scenes.givenBack().book(2, 21, 1), 1);
        CHECK.same("promise 25, another box has one", Scenes.oneBooked().book(1, 21, 1), 1);
    }

    /** Promise 25, "Throws IllegalStateException if [..] the lane has one for the hour". */
    private static void bookLaneHasOne() {
        CHECK.refused("promise 25, the lane has one", Scenes::oneBooked, x -> x.book(0, 20, 2), Boundary.STATE);
        CHECK.same("promise 25, the hour before", Scenes.oneBooked().book(0, 19, 2), 1);
        CHECK.same("promise 25, the hour after", Scenes.oneBooked().book(0, 21, 2), 1);
        CHECK.same("promise 25, the lane before", Scenes.oneBooked().book(0, 20, 1), 1);
        CHECK.same("promise 25, the first lane", Scenes.oneBooked().book(0, 20, 0), 1);
        CHECK.same("promise 25, it was cancelled", Scenes.cancelled(0, Scenes.oneBooked()).book(0, 20, 2), 1);
        CHECK.same("promise 25, it was given back", Scenes.givenBack().book(0, 20, 2), 1);
        for (int full = 0; full < 3; full++) {
            int lane = full;
            CHECK.refused("promise 25, all lanes full", BoundaryGateTest::fullHour, x -> x.book(3, 11, lane),
                    Boundary.STATE);
            CHECK.same("promise 25, lane " + lane + " of a full hour was freed",
                    Scenes.cancelled(lane, fullHour()).book(3, 11, lane), 3);
        }
    }

    /** The boxes 0, 1 and 2 have the lanes 0, 1 and 2 for hour 11. */
    private static Quaylock fullHour() {
        return Scenes.booked(2, 11, 2, Scenes.booked(1, 11, 1, Scenes.booked(0, 11, 0, Scenes.four())));
    }

    /** Promise 25, "Throws IllegalStateException if [..] 30 have been booked". */
    private static void bookThirty() {
        CHECK.same("promise 25, the thirtieth", Scenes.thirtyBooked().appointmentOf(0), 29);
        CHECK.refused("promise 25, a thirty-first", Scenes::thirtyBooked, x -> x.book(1, 500, 0), Boundary.STATE);
        CHECK.refused("promise 25, a thirty-first when none is booked any more",
                () -> Scenes.cancelled(29, Scenes.thirtyBooked()), x -> x.book(0, 500, 0), Boundary.STATE);
        CHECK.refused("promise 25, a thirty-first when the last is done", () -> Scenes.at(129, Scenes.thirtyBooked()),
                x -> x.book(1, 500, 0), Boundary.STATE);
    }

    /** Promise 25, "If several exceptions apply, the one that is listed first is thrown". */
    private static void bookOrder() {
        Supplier<Quaylock> heldAndFull = () -> Scenes.held(1, 'l', 1000, Scenes.thirtyBooked());
        CHECK.refused("promise 25, no box before hour", Scenes::four, x -> x.book(4, 10, 0), Boundary.NO_SUCH);
        CHECK.refused("promise 25, no box before 30", Scenes::thirtyBooked, x -> x.book(-1, 500, 0), Boundary.NO_SUCH);
        CHECK.refused("promise 25, no box before the lane has one", Scenes::oneBooked, x -> x.book(20, 20, 2),
                Boundary.NO_SUCH);
        CHECK.refused("promise 25, no lane before hour", Scenes::four, x -> x.book(0, 1000, 3), Boundary.NO_SUCH);
        CHECK.refused("promise 25, no lane before a hold", heldAndFull, x -> x.book(1, 500, -1), Boundary.NO_SUCH);
        CHECK.refused("promise 25, no lane before the box has one", Scenes::oneBooked, x -> x.book(2, 500, 3),
                Boundary.NO_SUCH);
        CHECK.refused("promise 25, hour before a hold", heldAndFull, x -> x.book(1, 10, 0), Boundary.WRONG);
        CHECK.refused("promise 25, hour before a hold for good", heldAndFull, x -> x.book(1, 1000, 0), Boundary.WRONG);
        CHECK.refused("promise 25, hour before the box has one", Scenes::oneBooked, x -> x.book(2, 1000, 2),
                Boundary.WRONG);
        CHECK.refused("promise 25, hour before 30", Scenes::thirtyBooked, x -> x.book(1, 0, 0), Boundary.WRONG);
        CHECK.refused("promise 25, a hold before the box has one",
                () -> Scenes.held(2, 'p', 20, Scenes.oneBooked()), x -> x.book(2, 19, 0), Boundary.CANNOT);
        CHECK.refused("promise 25, a hold before the lane has one",
                () -> Scenes.held(0, 'l', 21, Scenes.oneBooked()), x -> x.book(0, 20, 2), Boundary.CANNOT);
        CHECK.refused("promise 25, a hold before 30", heldAndFull, x -> x.book(1, 999, 0), Boundary.CANNOT);
    }

    /** Promise 25, "A method that throws an exception changes nothing": the next one has the next number. */
    private static void bookRefusedTakesNoNumber() {
        Quaylock yard = Scenes.held(1, 'l', 30, Scenes.oneBooked());
        int[][] refused = {{9, 20, 0}, {0, 20, 3}, {0, 10, 0}, {0, 1000, 0}, {1, 29, 0}, {2, 30, 0}, {0, 20, 2}};
        int counted = 0;
        for (int[] call : refused) {
            try {
                yard.book(call[0], call[1], call[2]);
            } catch (RuntimeException e) {
                counted++;
            }
        }
        CHECK.same("promise 25, refused ones", counted, refused.length);
        CHECK.same("promise 25, the number after refused ones", yard.book(0, 20, 1), 1);
    }

    private static Quaylock eightBooked() {
        Quaylock yard = Scenes.eightBoxes();
        for (int box = 0; box < 8; box++) {
            yard.book(box, 100 + box / 3, box % 3);
        }
        return yard;
    }

    /** Promise 26, "Returns the number of appointments that are booked then": 7 the most, 0 the least. */
    private static void cancelTellsHowManyAreBooked() {
        Quaylock yard = eightBooked();
        for (int appointment = 7; appointment >= 0; appointment--) {
            CHECK.same("promise 26, cancel " + appointment, yard.cancel(appointment), appointment);
            CHECK.same("promise 26, its state", yard.stateOf(appointment), 'c');
        }
        CHECK.same("promise 26, the thirtieth", Scenes.thirtyBooked().cancel(29), 0);
        Quaylock mixed = Scenes.booked(1, 30, 0, Scenes.booked(2, 30, 1, Scenes.missed()));
        CHECK.same("promise 26, a missed one is not booked", mixed.cancel(1), 1);
    }

    /** Promise 26, "Throws IndexOutOfBoundsException if there is no such appointment", and first of the two. */
    private static void cancelNoSuchAppointment() {
        BOUNDARY.appointmentsThatAreNot("promise 26, cancel", (x, appointment) -> x.cancel(appointment));
    }

    /** Promise 26, "Throws IllegalStateException if it is not booked": done, missed, given back, cancelled. */
    private static void cancelNotBooked() {
        CHECK.refused("promise 26, done", Scenes::oneHasLeft, x -> x.cancel(0), Boundary.STATE);
        CHECK.refused("promise 26, missed", Scenes::missed, x -> x.cancel(0), Boundary.STATE);
        CHECK.refused("promise 26, given back", Scenes::givenBack, x -> x.cancel(0), Boundary.STATE);
        CHECK.refused("promise 26, cancelled", () -> Scenes.cancelled(0, Scenes.oneBooked()), x -> x.cancel(0),
                Boundary.STATE);
        CHECK.refused("promise 26, the last but one of 30", Scenes::thirtyBooked, x -> x.cancel(28), Boundary.STATE);
        CHECK.same("promise 26, an hour before its hour", Scenes.at(19, Scenes.oneBooked()).cancel(0), 0);
        CHECK.refused("promise 26, its hour has come", () -> Scenes.at(20, Scenes.oneBooked()), x -> x.cancel(0),
                Boundary.STATE);
    }

    /** Promise 27, "Returns 'b', 'd', 'm', 'g' or 'c'". */
    private static void stateOfEach() {
        CHECK.onlyTells("promise 27, booked", Scenes::oneBooked, x -> x.stateOf(0), 'b');
        CHECK.onlyTells("promise 27, an hour before", () -> Scenes.at(19, Scenes.oneBooked()), x -> x.stateOf(0), 'b');
        CHECK.onlyTells("promise 27, its hour", () -> Scenes.at(20, Scenes.oneBooked()), x -> x.stateOf(0), 'd');
        CHECK.onlyTells("promise 27, missed", Scenes::missed, x -> x.stateOf(0), 'm');
        CHECK.onlyTells("promise 27, given back", Scenes::givenBack, x -> x.stateOf(0), 'g');
        CHECK.onlyTells("promise 27, cancelled", Scenes::thirtyBooked, x -> x.stateOf(0), 'c');
        CHECK.onlyTells("promise 27, the last of 30", Scenes::thirtyBooked, x -> x.stateOf(29), 'b');
        CHECK.onlyTells("promise 27, at the last hour", () -> Scenes.at(999, Scenes.givenBack()), x -> x.stateOf(0),
                'g');
    }

    /** Promise 27, "Throws IndexOutOfBoundsException if there is no such appointment". */
    private static void stateOfNoSuchAppointment() {
        BOUNDARY.appointmentsThatAreNot("promise 27, stateOf", (x, appointment) -> x.stateOf(appointment));
    }

    /** Promise 28, "Returns the booked appointment of a box": number 0, number 29, the newest of several. */
    private static void appointmentOfFirstAndLast() {
        CHECK.onlyTells("promise 28, the first", Scenes::oneBooked, x -> x.appointmentOf(2), 0);
        CHECK.onlyTells("promise 28, the last", Scenes::thirtyBooked, x -> x.appointmentOf(0), 29);
        CHECK.onlyTells("promise 28, after a missed one", () -> Scenes.booked(0, 12, 0, Scenes.missed()),
                x -> x.appointmentOf(0), 1);
        CHECK.onlyTells("promise 28, after one that was given back", () -> Scenes.booked(2, 21, 0, Scenes.givenBack()),
                x -> x.appointmentOf(2), 1);
    }

    /** Promise 28, "Throws NoSuchElementException if it has none". */
    private static void appointmentOfNone() {
        CHECK.refused("promise 28, it never had one", Scenes::four, x -> x.appointmentOf(0), Boundary.NONE);
        CHECK.refused("promise 28, another has one", Scenes::oneBooked, x -> x.appointmentOf(0), Boundary.NONE);
        CHECK.refused("promise 28, missed", Scenes::missed, x -> x.appointmentOf(0), Boundary.NONE);
        CHECK.refused("promise 28, given back", Scenes::givenBack, x -> x.appointmentOf(2), Boundary.NONE);
        CHECK.refused("promise 28, cancelled", () -> Scenes.cancelled(0, Scenes.oneBooked()), x -> x.appointmentOf(2),
                Boundary.NONE);
    }

    /** Promise 28, "Throws IndexOutOfBoundsException if there is no such box in the yard", and first of the two. */
    private static void appointmentOfNoSuchBox() {
        BOUNDARY.boxesNotInTheYard("promise 28, appointmentOf", (x, box) -> x.appointmentOf(box));
    }

    /** Promise 29, "Throws IllegalArgumentException if the hour is not between 0 and 999". */
    private static void inLaneHourFrom0To999() {
        for (int i = 0; i < 3; i++) {
            int lane = i;
            CHECK.onlyTells("promise 29, hour 0", Scenes::four, x -> x.inLane(lane, 0), -1);
            CHECK.onlyTells("promise 29, hour 999", Scenes::four, x -> x.inLane(lane, 999), -1);
            CHECK.onlyTells("promise 29, booked for 999", () -> Scenes.booked(0, 999, lane, Scenes.four()),
                    x -> x.inLane(lane, 999), 0);
            for (int hour : new int[] {-1, -2, 1000, 1001}) {
                CHECK.refused("promise 29, hour " + hour, Scenes::oneBooked, x -> x.inLane(lane, hour),
                        Boundary.WRONG);
            }
        }
        for (int hour : new int[] {Integer.MIN_VALUE, Integer.MAX_VALUE, -(1 << 30), 1 << 30, 1 << 16}) {
            CHECK.refused("promise 29, hour " + hour, Scenes::oneBooked, x -> x.inLane(0, hour), Boundary.WRONG);
        }
        CHECK.onlyTells("promise 29, hour 0 in the last hour", () -> oneBox(999), x -> x.inLane(0, 0), -1);
        CHECK.onlyTells("promise 29, this hour", Scenes::four, x -> x.inLane(0, 10), -1);
    }

    /** Promise 29, "or -1 if there is none": another lane or hour, or one that is booked no more. */
    private static void inLaneNone() {
        CHECK.onlyTells("promise 29, booked", Scenes::oneBooked, x -> x.inLane(2, 20), 0);
        CHECK.onlyTells("promise 29, the last of 30", Scenes::thirtyBooked, x -> x.inLane(1, 129), 29);
        CHECK.onlyTells("promise 29, the lane before", Scenes::oneBooked, x -> x.inLane(1, 20), -1);
        CHECK.onlyTells("promise 29, the hour before", Scenes::oneBooked, x -> x.inLane(2, 19), -1);
        CHECK.onlyTells("promise 29, the hour after", Scenes::oneBooked, x -> x.inLane(2, 21), -1);
        CHECK.onlyTells("promise 29, done", Scenes::oneHasLeft, x -> x.inLane(0, 11), -1);
        CHECK.onlyTells("promise 29, missed", Scenes::missed, x -> x.inLane(0, 11), -1);
        CHECK.onlyTells("promise 29, given back", Scenes::givenBack, x -> x.inLane(2, 20), -1);
        CHECK.onlyTells("promise 29, cancelled", Scenes::thirtyBooked, x -> x.inLane(1, 100), -1);
    }

    /** Promise 29, "Throws IndexOutOfBoundsException if there is no such lane", and first of the two. */
    private static void inLaneNoSuchLane() {
        BOUNDARY.lanesThatAreNot("promise 29, inLane", (x, lane) -> x.inLane(lane, 500));
        BOUNDARY.lanesThatAreNot("promise 29, inLane for hour -1", (x, lane) -> x.inLane(lane, -1));
        BOUNDARY.lanesThatAreNot("promise 29, inLane for hour 1000", (x, lane) -> x.inLane(lane, 1000));
    }

    /** Promise 30, "the first hour behind this one": never this one. */
    private static void firstHourIsTheNext() {
        for (int now : new int[] {0, 1, 10, 997, 998}) {
            CHECK.onlyTells("promise 30, in " + now, () -> oneBox(now), x -> x.firstHour(0), now + 1);
        }
        CHECK.onlyTells("promise 30, its own appointment does not matter", Scenes::oneBooked, x -> x.firstHour(2), 11);
        CHECK.onlyTells("promise 30, two lanes booked", () -> Scenes.cancelled(1, fullHour()), x -> x.firstHour(3),
                11);
    }

    /** Promise 30, "in which a box has no hold": the hour up to which it lasts is the first without. */
    private static void firstHourBehindAHold() {
        for (char kind : KINDS) {
            for (int until : new int[] {11, 12, 20, 998, 999}) {
                CHECK.onlyTells("promise 30, a hold up to " + until, () -> Scenes.held(2, kind, until, Scenes.four()),
                        x -> x.firstHour(2), until);
            }
            CHECK.onlyTells("promise 30, another box is held", () -> Scenes.held(1, kind, 1000, Scenes.four()),
                    x -> x.firstHour(2), 11);
            CHECK.onlyTells("promise 30, the hour up to which the hold lasts is full",
                    () -> Scenes.held(3, kind, 11, fullHour()), x -> x.firstHour(3), 12);
        }
    }

    /** Promise 30, "some lane has no booked appointment": full with three. */
    private static void firstHourBehindFullHours() {
        for (int i = 0; i < 4; i++) {
            int box = i;
            CHECK.onlyTells("promise 30, a full hour", BoundaryGateTest::fullHour, x -> x.firstHour(box), 12);
            CHECK.onlyTells("promise 30, two full hours", () -> twoFullHours(1), x -> x.firstHour(box), 3);
        }
        for (int i = 0; i < 3; i++) {
            int freed = i;
            CHECK.onlyTells("promise 30, lane " + freed + " freed", () -> Scenes.cancelled(freed, fullHour()),
                    x -> x.firstHour(3), 11);
        }
    }

    /** All lanes are booked for this hour and the next; two boxes have no appointment. */
    private static Quaylock twoFullHours(int hour) {
        Quaylock yard = Scenes.at(hour - 1, Scenes.eightBoxes());
        for (int box = 0; box < 6; box++) {
            yard.book(box, hour + box / 3, box % 3);
        }
        return yard;
    }

    /** Promise 30, "Throws NoSuchElementException if there is none up to 999". */
    private static void firstHourNone() {
        CHECK.onlyTells("promise 30, in 998", () -> oneBox(998), x -> x.firstHour(0), 999);
        CHECK.refused("promise 30, in 999", () -> oneBox(999), x -> x.firstHour(0), Boundary.NONE);
        for (char kind : KINDS) {
            CHECK.onlyTells("promise 30, held up to 999, in 998", () -> Scenes.held(0, kind, 999, oneBox(998)),
                    x -> x.firstHour(0), 999);
            CHECK.refused("promise 30, held for good", () -> Scenes.held(0, kind, 1000, oneBox(0)),
                    x -> x.firstHour(0), Boundary.NONE);
            CHECK.refused("promise 30, held up to 999, which is full",
                    () -> Scenes.held(7, kind, 999, twoFullHours(998)), x -> x.firstHour(7), Boundary.NONE);
            CHECK.onlyTells("promise 30, held up to 999, where a lane is free",
                    () -> Scenes.cancelled(3, Scenes.held(7, kind, 999, twoFullHours(998))), x -> x.firstHour(7), 999);
        }
        CHECK.refused("promise 30, the last two hours are full", () -> twoFullHours(998), x -> x.firstHour(7),
                Boundary.NONE);
        CHECK.onlyTells("promise 30, a lane of the last hour is free", () -> Scenes.cancelled(5, twoFullHours(998)),
                x -> x.firstHour(7), 999);
    }

    /** Promise 30, "Throws IndexOutOfBoundsException if there is no such box in the yard", and first of the two. */
    private static void firstHourNoSuchBox() {
        BOUNDARY.boxesNotInTheYard("promise 30, firstHour", (x, box) -> x.firstHour(box));
        CHECK.refused("promise 30, no such box in the last hour", () -> oneBox(999), x -> x.firstHour(1),
                Boundary.NO_SUCH);
    }

    /** Promise 31, "Throws IllegalArgumentException if it is not between 1 and 24". */
    private static void passFrom1To24() {
        for (int hours : new int[] {1, 2, 23, 24}) {
            Quaylock yard = new Quaylock();
            CHECK.same("promise 31, " + hours + " hours", yard.pass(hours), 0);
            CHECK.same("promise 31, the hour then", yard.now(), hours);
        }
        for (int hours : new int[] {0, -1, 25, 26}) {
            CHECK.refused("promise 31, " + hours + " hours", Scenes::oneBooked, x -> x.pass(hours), Boundary.WRONG);
        }
        for (int hours : Boundary.FAR) {
            CHECK.refused("promise 31, " + hours + " hours", Scenes::oneBooked, x -> x.pass(hours), Boundary.WRONG);
            CHECK.refused("promise 31, " + hours + " hours from 999", () -> oneBox(999), x -> x.pass(hours),
                    Boundary.WRONG);
        }
    }

    /** Promise 31, "Throws IllegalArgumentException if [..] the hour would be greater than 999": 999 is allowed. */
    private static void passUpTo999() {
        for (int hours : new int[] {1, 2, 23, 24}) {
            Quaylock yard = oneBox(999 - hours);
            CHECK.same("promise 31, " + hours + " hours up to 999", yard.pass(hours), 0);
            CHECK.same("promise 31, the last hour", yard.now(), 999);
            Quaylock leaving = Scenes.booked(0, 999, 2, oneBox(999 - hours));
            CHECK.same("promise 31, an appointment for the last hour", leaving.pass(hours), 1);
            CHECK.same("promise 31, its state", leaving.stateOf(0), 'd');
        }
    }

    /** Promise 31, "Throws IllegalArgumentException if [..] the hour would be greater than 999": 1000 is not. */
    private static void passOver999() {
        for (int hours : new int[] {1, 2, 23, 24}) {
            CHECK.refused("promise 31, " + hours + " hours up to 1000", () -> oneBox(1000 - hours),
                    x -> x.pass(hours), Boundary.WRONG);
            CHECK.refused("promise 31, " + hours + " hours from 999", () -> oneBox(999), x -> x.pass(hours),
                    Boundary.WRONG);
        }
        CHECK.refused("promise 31, 0 hours from 999", () -> oneBox(999), x -> x.pass(0), Boundary.WRONG);
    }

    /** Promise 31, "Returns the number of boxes that leave": none, three in an hour, all 8. */
    private static void passTellsHowManyLeave() {
        CHECK.same("promise 31, none is booked", Scenes.eightBoxes().pass(24), 0);
        CHECK.same("promise 31, the hour before", Scenes.oneBooked().pass(9), 0);
        CHECK.same("promise 31, the very hour", Scenes.oneBooked().pass(10), 1);
        CHECK.same("promise 31, a missed one does not leave", Scenes.at(10, missedTwice()).pass(1), 0);
        Quaylock three = Scenes.eightBoxes();
        three.book(7, 1, 0);
        three.book(6, 1, 1);
        three.book(5, 1, 2);
        CHECK.same("promise 31, three in an hour", three.pass(1), 3);
        Quaylock all = Scenes.eightBoxes();
        for (int i = 0; i < 8; i++) {
            all.book(7 - i, 1 + i / 3, i % 3);
        }
        CHECK.same("promise 31, all 8 in three hours", all.pass(24), 8);
        CHECK.same("promise 31, none is left", all.boxes(), 0);
    }

    /** Two appointments for hour 11 for boxes below a pinned one. */
    private static Quaylock missedTwice() {
        return Scenes.booked(0, 11, 0, Scenes.booked(1, 11, 1, Scenes.held(2, 'p', 12, Scenes.four())));
    }

    /** Promise 31, "A method that throws an exception changes nothing": not one of the hours comes. */
    private static void passRefusedLetsNothingHappen() {
        Supplier<Quaylock> late = () -> Scenes.held(1, 'p', 999,
                Scenes.booked(0, 998, 0, Scenes.at(997, Scenes.yard("4", "5@0 5@0"))));
        CHECK.refused("promise 31, over the end", late, x -> x.pass(3), Boundary.WRONG);
        CHECK.same("promise 31, up to the end", late.get().pass(2), 0);
        CHECK.refused("promise 31, 25 hours over a booking", Scenes::oneBooked, x -> x.pass(25), Boundary.WRONG);
        CHECK.refused("promise 31, no hour with a hold that would end",
                () -> Scenes.held(0, 'l', 11, Scenes.four()), x -> x.pass(0), Boundary.WRONG);
    }

    /** Promise 32, "Returns the hour": 0 at first, 999 at the end. */
    private static void nowFrom0To999() {
        CHECK.onlyTells("promise 32, at first", Quaylock::new, x -> x.now(), 0);
        CHECK.onlyTells("promise 32, an hour later", () -> Scenes.passed(1, new Quaylock()), x -> x.now(), 1);
        CHECK.onlyTells("promise 32, at the end", () -> oneBox(999), x -> x.now(), 999);
    }

    /** Promise 33, "the sum of the weights of all boxes that have left": of none, of one, of as many as can come. */
    private static void weightLeftFromNoneToAll() {
        CHECK.onlyTells("promise 33, none has left", Scenes::eightBoxes, x -> x.weightLeft(), 0L);
        CHECK.onlyTells("promise 33, a missed one", Scenes::missed, x -> x.weightLeft(), 0L);
        CHECK.onlyTells("promise 33, one has left", Scenes::oneHasLeft, x -> x.weightLeft(), 8L);
        CHECK.onlyTells("promise 33, all four have left", Scenes::allHaveLeft, x -> x.weightLeft(), 29L);
        CHECK.onlyTells("promise 33, 20 have left", Scenes::twentyHaveLeft, x -> x.weightLeft(), 40L);
        Quaylock heaviest = Scenes.fourStacks();
        for (int box = 0; box < 20; box++) {
            heaviest.addBox(30, box % 4);
            Scenes.passed(1, Scenes.booked(box, box + 1, 0, heaviest));
        }
        CHECK.same("promise 33, the greatest sum", heaviest.weightLeft(), 600L);
    }

    /** Promise 34, "Throws NoSuchElementException if there are none": done, missed or given back. */
    private static void doneShareNone() {
        CHECK.refused("promise 34, no appointment", Scenes::four, x -> x.doneShare(), Boundary.NONE);
        CHECK.refused("promise 34, a booked one", Scenes::oneBooked, x -> x.doneShare(), Boundary.NONE);
        CHECK.refused("promise 34, a cancelled one", () -> Scenes.cancelled(0, Scenes.oneBooked()), x -> x.doneShare(),
                Boundary.NONE);
        CHECK.refused("promise 34, 29 cancelled ones and a booked one", Scenes::thirtyBooked, x -> x.doneShare(),
                Boundary.NONE);
    }

    /** Promise 34, "Returns the number of done ones divided by that of all of these, both converted to float". */
    private static void doneShareFrom0To1() {
        CHECK.onlyTells("promise 34, one that is missed", Scenes::missed, x -> x.doneShare(), 0.0f);
        CHECK.onlyTells("promise 34, one that is given back", Scenes::givenBack, x -> x.doneShare(), 0.0f);
        CHECK.onlyTells("promise 34, one that is done", Scenes::oneHasLeft, x -> x.doneShare(), 1.0f);
        CHECK.onlyTells("promise 34, 20 that are done", Scenes::twentyHaveLeft, x -> x.doneShare(), 1.0f);
        CHECK.onlyTells("promise 34, one of 30 is done, 29 are cancelled",
                () -> Scenes.passed(1, Scenes.at(128, Scenes.thirtyBooked())), x -> x.doneShare(), 1.0f);
        for (int givenBack = 1; givenBack <= 29; givenBack++) {
            int others = givenBack;
            CHECK.onlyTells("promise 34, 1 of " + (1 + others), () -> oneDoneOf(others), x -> x.doneShare(),
                    1.0f / (float) (1 + others));
        }
    }

    /** One appointment is done, and so many were given back. */
    private static Quaylock oneDoneOf(int givenBack) {
        Quaylock yard = Scenes.oneHasLeft();
        for (int i = 0; i < givenBack; i++) {
            yard.book(2, 500, 0);
            yard.hold(2, 'l', 501);
            yard.release(2);
        }
        return yard;
    }
}
