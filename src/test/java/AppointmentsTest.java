import java.util.NoSuchElementException;
import java.util.function.Supplier;

/** Promises 25 to 34. */
public final class AppointmentsTest {
    private static final int[] NO_BOXES = {-1, 4, 19, 20, Integer.MIN_VALUE, Integer.MAX_VALUE};
    private static final int[] NO_LANES = {-1, 3, 4, Integer.MIN_VALUE, Integer.MAX_VALUE};

    private static final Check CHECK = new Check("AppointmentsTest");

    public static void main(String[] args) {
        book();
        bookRefuses();
        bookRefusesInOrder();
        bookThirty();
        cancel();
        stateOf();
        appointmentOf();
        inLane();
        firstHour();
        firstHourAtTheEnd();
        pass();
        passRefuses();
        boxesLeave();
        lanesComeInTheirOrder();
        appointmentsAreMissed();
        holdsEndFirst();
        now();
        weightLeft();
        doneShare();
        CHECK.end();
    }

    /** The boxes 0 (9), 1 (7) in stack 0, 2 (8), 3 (2) in stack 1; stack 2 is empty; the hour is 10. */
    private static Quaylock four() {
        Quaylock yard = new Quaylock();
        yard.addStack(4);
        yard.addStack(4);
        yard.addStack(4);
        yard.addBox(9, 0);
        yard.addBox(7, 0);
        yard.addBox(8, 1);
        yard.addBox(2, 1);
        yard.pass(10);
        return yard;
    }

    /** Box 1 has the appointment 0 for the hour 20 in lane 2. */
    private static Quaylock booked() {
        Quaylock yard = four();
        yard.book(1, 20, 2);
        return yard;
    }

    private static Quaylock held(char kind, int until) {
        Quaylock yard = four();
        yard.hold(1, kind, until);
        return yard;
    }

    private static Quaylock oneHasLeft() {
        Quaylock yard = four();
        yard.book(3, 11, 0);
        yard.pass(1);
        return yard;
    }

    private static Quaylock thirtyBooked() {
        Quaylock yard = four();
        for (int i = 0; i < 30; i++) {
            yard.book(0, 100 + i, 1);
            if (i < 29) {
                yard.cancel(i);
            }
        }
        return yard;
    }

    private static Quaylock atHour(int hour) {
        Quaylock yard = four();
        while (yard.now() < hour) {
            yard.pass(Math.min(24, hour - yard.now()));
        }
        return yard;
    }

    private static void book() {
        Quaylock yard = four();
        CHECK.same("the next hour", yard.book(0, 11, 0), 0);
        CHECK.same("the last hour", yard.book(1, 999, 2), 1);
        CHECK.same("the same lane in another hour", yard.book(2, 12, 0), 2);
        CHECK.same("the same hour in another lane", yard.book(3, 12, 1), 3);
        CHECK.same("states", "" + yard.stateOf(0) + yard.stateOf(1) + yard.stateOf(2) + yard.stateOf(3), "bbbb");
        CHECK.same("lane 0", yard.inLane(0, 12), 2);
        CHECK.same("lane 1", yard.inLane(1, 12), 3);
        CHECK.same("lane 2", yard.inLane(2, 12), -1);
        CHECK.same("the boxes stay", yard.boxes(), 4);
        CHECK.same("now", yard.now(), 10);
        for (char kind : new char[] {'p', 'l'}) {
            CHECK.same("the hour in which the hold has ended", held(kind, 15).book(1, 15, 0), 0);
            CHECK.same("another box", held(kind, 15).book(0, 12, 0), 0);
        }
        Quaylock again = booked();
        again.cancel(0);
        CHECK.same("the same once more", again.book(1, 20, 2), 1);
        Quaylock back = booked();
        back.hold(1, 'l', 25);
        CHECK.same("behind the hold that gave it back", back.book(1, 25, 2), 1);
        CHECK.same("in the lane that was given back", back.book(0, 20, 2), 2);
        Quaylock missed = missedOnce();
        CHECK.same("after a missed one", missed.book(0, 12, 0), 1);
    }

    /** Box 0 was dug for in vain in hour 11. */
    private static Quaylock missedOnce() {
        Quaylock yard = four();
        yard.hold(1, 'p', 12);
        yard.book(0, 11, 0);
        yard.pass(1);
        return yard;
    }

    private static void bookRefuses() {
        for (int box : NO_BOXES) {
            CHECK.refused("book for box " + box, AppointmentsTest::four, x -> x.book(box, 20, 0),
                    IndexOutOfBoundsException.class);
        }
        CHECK.refused("book for one that has left", AppointmentsTest::oneHasLeft, x -> x.book(3, 20, 0),
                IndexOutOfBoundsException.class);
        for (int lane : NO_LANES) {
            CHECK.refused("book in lane " + lane, AppointmentsTest::four, x -> x.book(0, 20, lane),
                    IndexOutOfBoundsException.class);
        }
        for (int hour : new int[] {10, 9, 0, -1, 1000, 1001, Integer.MIN_VALUE, Integer.MAX_VALUE}) {
            CHECK.refused("book for hour " + hour, AppointmentsTest::four, x -> x.book(0, hour, 0),
                    IllegalArgumentException.class);
        }
        for (char kind : new char[] {'p', 'l'}) {
            for (int hour : new int[] {11, 14}) {
                CHECK.refused("book in a hold", () -> held(kind, 15), x -> x.book(1, hour, 0),
                        UnsupportedOperationException.class);
            }
            CHECK.refused("book in a hold for good", () -> held(kind, 1000), x -> x.book(1, 999, 0),
                    UnsupportedOperationException.class);
        }
        CHECK.refused("book for a box that has one", AppointmentsTest::booked, x -> x.book(1, 30, 0),
                IllegalStateException.class);
        CHECK.refused("book in a lane that has one", AppointmentsTest::booked, x -> x.book(0, 20, 2),
                IllegalStateException.class);
        CHECK.refused("a thirty-first", AppointmentsTest::thirtyBooked, x -> x.book(1, 500, 0),
                IllegalStateException.class);
    }

    private static void bookRefusesInOrder() {
        CHECK.refused("no box, wrong hour", AppointmentsTest::four, x -> x.book(4, 5, 0),
                IndexOutOfBoundsException.class);
        CHECK.refused("no lane, wrong hour", AppointmentsTest::four, x -> x.book(1, 1000, 3),
                IndexOutOfBoundsException.class);
        CHECK.refused("no lane, in a hold", () -> held('p', 1000), x -> x.book(1, 20, -1),
                IndexOutOfBoundsException.class);
        CHECK.refused("wrong hour, in a hold", () -> held('p', 1000), x -> x.book(1, 10, 0),
                IllegalArgumentException.class);
        CHECK.refused("wrong hour, booked", AppointmentsTest::booked, x -> x.book(1, 1000, 0),
                IllegalArgumentException.class);
        CHECK.refused("in a hold, booked", () -> {
            Quaylock yard = booked();
            yard.hold(1, 'l', 20);
            return yard;
        }, x -> x.book(1, 19, 0), UnsupportedOperationException.class);
        CHECK.refused("in a hold, the lane booked", () -> {
            Quaylock yard = booked();
            yard.hold(0, 'l', 21);
            return yard;
        }, x -> x.book(0, 20, 2), UnsupportedOperationException.class);
        CHECK.refused("in a hold, a thirty-first", () -> {
            Quaylock yard = thirtyBooked();
            yard.hold(1, 'l', 21);
            return yard;
        }, x -> x.book(1, 20, 2), UnsupportedOperationException.class);
    }

    private static void bookThirty() {
        Quaylock yard = thirtyBooked();
        CHECK.same("the thirtieth", yard.appointmentOf(0), 29);
        CHECK.same("its state", yard.stateOf(29), 'b');
        CHECK.same("its lane", yard.inLane(1, 129), 29);
        CHECK.same("the last one cancelled", yard.cancel(29), 0);
        CHECK.refused("a thirty-first when none is booked", () -> {
            Quaylock all = thirtyBooked();
            all.cancel(29);
            return all;
        }, x -> x.book(1, 500, 0), IllegalStateException.class);
    }

    private static void cancel() {
        Quaylock yard = booked();
        yard.book(2, 20, 1);
        yard.book(3, 21, 1);
        CHECK.same("cancel", yard.cancel(1), 2);
        CHECK.same("its state", yard.stateOf(1), 'c');
        CHECK.same("the other states", "" + yard.stateOf(0) + yard.stateOf(2), "bb");
        CHECK.same("its lane", yard.inLane(1, 20), -1);
        CHECK.same("cancel the last", yard.cancel(2), 1);
        CHECK.same("cancel the first", yard.cancel(0), 0);
        CHECK.same("pass", yard.pass(20), 0);
        CHECK.same("states", "" + yard.stateOf(0) + yard.stateOf(1) + yard.stateOf(2), "ccc");
        for (int appointment : new int[] {-1, 1, 29, 30, Integer.MIN_VALUE, Integer.MAX_VALUE}) {
            CHECK.refused("cancel " + appointment, AppointmentsTest::booked, x -> x.cancel(appointment),
                    IndexOutOfBoundsException.class);
        }
        Quaylock full = thirtyBooked();
        full.cancel(29);
        CHECK.refused("cancel 30", AppointmentsTest::thirtyBooked, x -> x.cancel(30),
                IndexOutOfBoundsException.class);
        CHECK.refused("cancel twice", AppointmentsTest::thirtyBooked, x -> x.cancel(28),
                IllegalStateException.class);
        CHECK.refused("cancel a done one", AppointmentsTest::oneHasLeft, x -> x.cancel(0),
                IllegalStateException.class);
        CHECK.refused("cancel a missed one", AppointmentsTest::missedOnce, x -> x.cancel(0),
                IllegalStateException.class);
        CHECK.refused("cancel one that was given back", AppointmentsTest::givenBack, x -> x.cancel(0),
                IllegalStateException.class);
    }

    private static Quaylock givenBack() {
        Quaylock yard = booked();
        yard.hold(1, 'l', 21);
        return yard;
    }

    private static void stateOf() {
        CHECK.onlyTells("booked", AppointmentsTest::booked, x -> x.stateOf(0), 'b');
        CHECK.onlyTells("done", AppointmentsTest::oneHasLeft, x -> x.stateOf(0), 'd');
        CHECK.onlyTells("missed", AppointmentsTest::missedOnce, x -> x.stateOf(0), 'm');
        CHECK.onlyTells("given back", AppointmentsTest::givenBack, x -> x.stateOf(0), 'g');
        CHECK.onlyTells("cancelled", AppointmentsTest::thirtyBooked, x -> x.stateOf(0), 'c');
        for (int appointment : new int[] {-1, 1, 29, 30, Integer.MIN_VALUE, Integer.MAX_VALUE}) {
            CHECK.refused("stateOf " + appointment, AppointmentsTest::booked, x -> x.stateOf(appointment),
                    IndexOutOfBoundsException.class);
        }
        CHECK.refused("stateOf 30", AppointmentsTest::thirtyBooked, x -> x.stateOf(30),
                IndexOutOfBoundsException.class);
    }

    private static void appointmentOf() {
        CHECK.onlyTells("booked", AppointmentsTest::booked, x -> x.appointmentOf(1), 0);
        CHECK.onlyTells("after 29 that were cancelled", AppointmentsTest::thirtyBooked, x -> x.appointmentOf(0), 29);
        CHECK.refused("of another box", AppointmentsTest::booked, x -> x.appointmentOf(0),
                NoSuchElementException.class);
        CHECK.refused("missed", AppointmentsTest::missedOnce, x -> x.appointmentOf(0), NoSuchElementException.class);
        CHECK.refused("given back", AppointmentsTest::givenBack, x -> x.appointmentOf(1),
                NoSuchElementException.class);
        CHECK.refused("cancelled", () -> {
            Quaylock yard = booked();
            yard.cancel(0);
            return yard;
        }, x -> x.appointmentOf(1), NoSuchElementException.class);
        for (int box : NO_BOXES) {
            CHECK.refused("of box " + box, AppointmentsTest::booked, x -> x.appointmentOf(box),
                    IndexOutOfBoundsException.class);
        }
        CHECK.refused("of one that has left", AppointmentsTest::oneHasLeft, x -> x.appointmentOf(3),
                IndexOutOfBoundsException.class);
    }

    private static void inLane() {
        CHECK.onlyTells("its lane and hour", AppointmentsTest::booked, x -> x.inLane(2, 20), 0);
        CHECK.onlyTells("another lane", AppointmentsTest::booked, x -> x.inLane(1, 20), -1);
        CHECK.onlyTells("an hour before", AppointmentsTest::booked, x -> x.inLane(2, 19), -1);
        CHECK.onlyTells("an hour later", AppointmentsTest::booked, x -> x.inLane(2, 21), -1);
        CHECK.onlyTells("hour 0", AppointmentsTest::booked, x -> x.inLane(0, 0), -1);
        CHECK.onlyTells("hour 999", AppointmentsTest::booked, x -> x.inLane(2, 999), -1);
        CHECK.onlyTells("a done one", AppointmentsTest::oneHasLeft, x -> x.inLane(0, 11), -1);
        CHECK.onlyTells("a missed one", AppointmentsTest::missedOnce, x -> x.inLane(0, 11), -1);
        CHECK.onlyTells("one that was given back", AppointmentsTest::givenBack, x -> x.inLane(2, 20), -1);
        for (int lane : NO_LANES) {
            CHECK.refused("lane " + lane, AppointmentsTest::booked, x -> x.inLane(lane, 20),
                    IndexOutOfBoundsException.class);
            CHECK.refused("lane and hour " + lane, AppointmentsTest::booked, x -> x.inLane(lane, 1000),
                    IndexOutOfBoundsException.class);
        }
        for (int hour : new int[] {-1, 1000, Integer.MIN_VALUE, Integer.MAX_VALUE}) {
            CHECK.refused("hour " + hour, AppointmentsTest::booked, x -> x.inLane(0, hour),
                    IllegalArgumentException.class);
        }
        Quaylock last = four();
        last.book(0, 999, 2);
        CHECK.same("booked for the last hour", last.inLane(2, 999), 0);
    }

    /** All lanes are booked for the hour 11, and two for the hour 12. */
    private static Quaylock fullHour() {
        Quaylock yard = four();
        yard.addBox(1, 1);
        yard.book(0, 11, 0);
        yard.book(1, 11, 1);
        yard.book(2, 11, 2);
        yard.book(3, 12, 0);
        yard.book(4, 12, 2);
        return yard;
    }

    private static void firstHour() {
        CHECK.onlyTells("the next hour", AppointmentsTest::four, x -> x.firstHour(0), 11);
        CHECK.onlyTells("the box has an appointment", AppointmentsTest::booked, x -> x.firstHour(1), 11);
        for (int i = 0; i < 5; i++) {
            int box = i;
            CHECK.onlyTells("behind a full hour", AppointmentsTest::fullHour, x -> x.firstHour(box), 12);
        }
        for (int i = 0; i < 3; i++) {
            int freed = i;
            CHECK.onlyTells("a lane of the full hour freed", () -> {
                Quaylock yard = fullHour();
                yard.cancel(freed);
                return yard;
            }, x -> x.firstHour(0), 11);
        }
        for (char kind : new char[] {'p', 'l'}) {
            CHECK.onlyTells("behind a hold", () -> held(kind, 15), x -> x.firstHour(1), 15);
            CHECK.onlyTells("a hold up to the next hour", () -> held(kind, 11), x -> x.firstHour(1), 11);
            CHECK.onlyTells("a hold on another box", () -> held(kind, 15), x -> x.firstHour(0), 11);
            CHECK.onlyTells("a hold up to 999", () -> held(kind, 999), x -> x.firstHour(1), 999);
            CHECK.refused("a hold for good", () -> held(kind, 1000), x -> x.firstHour(1),
                    NoSuchElementException.class);
        }
        CHECK.onlyTells("a full hour behind a hold", () -> {
            Quaylock yard = fullHour();
            yard.addBox(5, 2);
            yard.hold(5, 'l', 11);
            return yard;
        }, x -> x.firstHour(5), 12);
        for (int box : NO_BOXES) {
            CHECK.refused("firstHour of box " + box, AppointmentsTest::four, x -> x.firstHour(box),
                    IndexOutOfBoundsException.class);
        }
        CHECK.refused("firstHour of one that has left", AppointmentsTest::oneHasLeft, x -> x.firstHour(3),
                IndexOutOfBoundsException.class);
    }

    private static void firstHourAtTheEnd() {
        CHECK.onlyTells("firstHour in 998", () -> atHour(998), x -> x.firstHour(0), 999);
        CHECK.refused("firstHour in 999", () -> atHour(999), x -> x.firstHour(0), NoSuchElementException.class);
        CHECK.refused("firstHour when 999 is full", () -> {
            Quaylock yard = atHour(998);
            yard.book(0, 999, 0);
            yard.book(1, 999, 1);
            yard.book(2, 999, 2);
            return yard;
        }, x -> x.firstHour(3), NoSuchElementException.class);
        CHECK.refused("book in 999", () -> atHour(999), x -> x.book(0, 999, 0), IllegalArgumentException.class);
    }

    private static void pass() {
        for (int hours : new int[] {1, 2, 23, 24}) {
            Quaylock yard = four();
            CHECK.same("pass " + hours, yard.pass(hours), 0);
            CHECK.same("now", yard.now(), 10 + hours);
        }
        Quaylock yard = atHour(975);
        CHECK.same("pass up to the last hour", yard.pass(24), 0);
        CHECK.same("now", yard.now(), 999);
    }

    private static void passRefuses() {
        for (int hours : new int[] {0, -1, 25, Integer.MIN_VALUE, Integer.MAX_VALUE}) {
            CHECK.refused("pass " + hours, AppointmentsTest::booked, x -> x.pass(hours),
                    IllegalArgumentException.class);
        }
        CHECK.refused("pass over the last hour", () -> atHour(976), x -> x.pass(24), IllegalArgumentException.class);
        CHECK.refused("pass in the last hour", () -> atHour(999), x -> x.pass(1), IllegalArgumentException.class);
    }

    private static void boxesLeave() {
        Quaylock yard = booked();
        CHECK.same("the hour before", yard.pass(9), 0);
        CHECK.same("state before", yard.stateOf(0), 'b');
        CHECK.same("the hour", yard.pass(1), 1);
        CHECK.same("state", yard.stateOf(0), 'd');
        CHECK.same("isInYard", yard.isInYard(1), false);
        CHECK.same("boxes", yard.boxes(), 3);
        CHECK.same("height", yard.height(0), 1);
        CHECK.same("moves", yard.moves(), 0);
        CHECK.same("the number of the next box", yard.addBox(1, 0), 4);

        Quaylock dug = four();
        dug.book(0, 13, 1);
        dug.book(2, 14, 0);
        CHECK.same("two in one pass", dug.pass(24), 2);
        CHECK.same("states", "" + dug.stateOf(0) + dug.stateOf(1), "dd");
        CHECK.same("moves of both plans", dug.moves(), 2);
        CHECK.same("where the boxes above came to", "" + dug.stackOf(1) + dug.stackOf(3), "20");
        CHECK.same("now", dug.now(), 34);
        CHECK.same("weightLeft", dug.weightLeft(), 17L);
    }

    private static void lanesComeInTheirOrder() {
        Supplier<Quaylock> tower = () -> {
            Quaylock yard = new Quaylock();
            yard.addStack(3);
            yard.addStack(3);
            for (int i = 0; i < 3; i++) {
                yard.addBox(5, 0);
            }
            return yard;
        };
        Quaylock topFirst = tower.get();
        topFirst.book(0, 1, 2);
        topFirst.book(1, 1, 1);
        topFirst.book(2, 1, 0);
        CHECK.same("from the top", topFirst.pass(1), 3);
        CHECK.same("moves from the top", topFirst.moves(), 0);
        Quaylock bottomFirst = tower.get();
        bottomFirst.book(2, 1, 2);
        bottomFirst.book(1, 1, 1);
        bottomFirst.book(0, 1, 0);
        CHECK.same("from the bottom", bottomFirst.pass(1), 3);
        CHECK.same("moves from the bottom", bottomFirst.moves(), 2);
        CHECK.same("boxes", bottomFirst.boxes(), 0);
    }

    private static void appointmentsAreMissed() {
        Quaylock yard = missedOnce();
        CHECK.same("state", yard.stateOf(0), 'm');
        CHECK.same("isInYard", yard.isInYard(0), true);
        CHECK.same("moves", yard.moves(), 0);
        CHECK.same("weightLeft", yard.weightLeft(), 0L);
        CHECK.same("it does not leave later", yard.pass(24), 0);
        CHECK.same("state later", yard.stateOf(0), 'm');

        Quaylock mixed = four();
        mixed.hold(1, 'p', 1000);
        mixed.book(0, 12, 0);
        mixed.book(3, 12, 1);
        mixed.book(2, 13, 2);
        CHECK.same("one is missed, two leave", mixed.pass(5), 2);
        CHECK.same("states", "" + mixed.stateOf(0) + mixed.stateOf(1) + mixed.stateOf(2), "mdd");
    }

    private static void holdsEndFirst() {
        for (char kind : new char[] {'p', 'l'}) {
            Quaylock yard = held(kind, 12);
            yard.book(1, 12, 0);
            CHECK.same("a hold that ends in the hour", yard.pass(2), 1);
            CHECK.same("state", yard.stateOf(0), 'd');
        }
        Quaylock pinnedAbove = held('p', 12);
        pinnedAbove.book(0, 12, 0);
        CHECK.same("a pin above that ends in the hour", pinnedAbove.pass(2), 1);
        Quaylock locked = held('l', 100);
        locked.book(0, 12, 0);
        CHECK.same("a hold above that pins not", locked.pass(2), 1);
        CHECK.same("the held box was moved", locked.stackOf(1), 2);
        Quaylock pinned = held('p', 13);
        pinned.book(0, 12, 0);
        CHECK.same("a pin above that lasts", pinned.pass(24), 0);
        CHECK.same("state", pinned.stateOf(0), 'm');
    }

    private static void now() {
        CHECK.onlyTells("now", AppointmentsTest::four, x -> x.now(), 10);
        CHECK.onlyTells("now at the end", () -> atHour(999), x -> x.now(), 999);
    }

    private static void weightLeft() {
        CHECK.onlyTells("weightLeft of none", AppointmentsTest::booked, x -> x.weightLeft(), 0L);
        CHECK.onlyTells("weightLeft of one", AppointmentsTest::oneHasLeft, x -> x.weightLeft(), 2L);
        Quaylock yard = oneHasLeft();
        yard.book(2, 12, 0);
        yard.book(1, 13, 0);
        yard.book(0, 14, 0);
        yard.pass(1);
        CHECK.same("weightLeft of two", yard.weightLeft(), 10L);
        yard.pass(24);
        CHECK.same("weightLeft of all", yard.weightLeft(), 26L);
    }

    private static void doneShare() {
        CHECK.refused("none at all", AppointmentsTest::four, x -> x.doneShare(), NoSuchElementException.class);
        CHECK.refused("booked and cancelled ones", AppointmentsTest::thirtyBooked, x -> x.doneShare(),
                NoSuchElementException.class);
        CHECK.onlyTells("a done one", AppointmentsTest::oneHasLeft, x -> x.doneShare(), 1.0f);
        CHECK.onlyTells("a missed one", AppointmentsTest::missedOnce, x -> x.doneShare(), 0.0f);
        CHECK.onlyTells("one that was given back", AppointmentsTest::givenBack, x -> x.doneShare(), 0.0f);
        CHECK.onlyTells("one of each", AppointmentsTest::oneOfEach, x -> x.doneShare(), 1.0f / 3.0f);
        Quaylock two = oneOfEach();
        two.release(1);
        two.book(1, 30, 0);
        two.pass(20);
        CHECK.same("two of four", two.doneShare(), 0.5f);
    }

    /** One done, one missed, one given back, one cancelled and one booked. */
    private static Quaylock oneOfEach() {
        Quaylock yard = four();
        yard.book(3, 11, 0);
        yard.book(1, 11, 1);
        yard.hold(1, 'p', 25);
        yard.book(0, 11, 2);
        yard.pass(1);
        yard.book(0, 40, 0);
        yard.cancel(3);
        yard.book(2, 900, 0);
        return yard;
    }
}
