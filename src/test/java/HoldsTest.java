import java.util.NoSuchElementException;

/** Promises 12 to 16. */
public final class HoldsTest {
    private static final int[] NO_BOXES = {-1, 4, 19, 20, Integer.MIN_VALUE, Integer.MAX_VALUE};

    private static final Check CHECK = new Check("HoldsTest");

    public static void main(String[] args) {
        hold();
        holdInPlaceOfAnother();
        holdGivesBack();
        holdRefuses();
        holdAtTheLastHours();
        holdsEndWhenTheirHourComes();
        release();
        releaseRefuses();
        holdOfAndHeldUntil();
        pinnedAbove();
        CHECK.end();
    }

    /** Four boxes of the same weight in stack 0, an empty stack 1, and the hour 10. */
    private static Quaylock tower() {
        Quaylock yard = new Quaylock();
        yard.addStack(4);
        yard.addStack(4);
        for (int i = 0; i < 4; i++) {
            yard.addBox(6, 0);
        }
        yard.pass(10);
        return yard;
    }

    private static Quaylock towerWithHold(char kind, int until) {
        Quaylock yard = tower();
        yard.hold(1, kind, until);
        return yard;
    }

    private static Quaylock towerWithBooking(int hour) {
        Quaylock yard = tower();
        yard.book(1, hour, 2);
        return yard;
    }

    /** Box 0 has left. */
    private static Quaylock oneHasLeft() {
        Quaylock yard = new Quaylock();
        yard.addStack(1);
        yard.addBox(5, 0);
        yard.book(0, 1, 0);
        yard.pass(1);
        return yard;
    }

    private static Quaylock atHour(int hour) {
        Quaylock yard = new Quaylock();
        yard.addStack(1);
        yard.addBox(5, 0);
        while (yard.now() < hour) {
            yard.pass(Math.min(24, hour - yard.now()));
        }
        return yard;
    }

    private static void hold() {
        for (char kind : new char[] {'p', 'l'}) {
            for (int until : new int[] {11, 12, 999, 1000}) {
                Quaylock yard = tower();
                CHECK.same("hold " + kind + " " + until, yard.hold(1, kind, until), 0);
                CHECK.same("holdOf", yard.holdOf(1), kind);
                CHECK.same("heldUntil", yard.heldUntil(1), until);
                CHECK.same("holdOf the others", "" + yard.holdOf(0) + yard.holdOf(2) + yard.holdOf(3), "---");
                CHECK.same("now", yard.now(), 10);
            }
        }
    }

    private static void holdInPlaceOfAnother() {
        Quaylock yard = towerWithHold('p', 20);
        CHECK.same("a longer hold", yard.hold(1, 'l', 30), 0);
        CHECK.same("its kind", yard.holdOf(1), 'l');
        CHECK.same("its hour", yard.heldUntil(1), 30);
        CHECK.same("a shorter hold", yard.hold(1, 'p', 11), 0);
        CHECK.same("its kind", yard.holdOf(1), 'p');
        CHECK.same("its hour", yard.heldUntil(1), 11);
        CHECK.same("the other kind up to the same hour", yard.hold(1, 'l', 11), 0);
        CHECK.same("its kind", yard.holdOf(1), 'l');
        CHECK.same("its hour", yard.release(1), 11);
        CHECK.same("nothing is left of the holds before", yard.holdOf(1), '-');
    }

    private static void holdGivesBack() {
        for (char kind : new char[] {'p', 'l'}) {
            Quaylock lasting = towerWithBooking(20);
            CHECK.same("hold over the hour", lasting.hold(1, kind, 21), 1);
            CHECK.same("state", lasting.stateOf(0), 'g');
            CHECK.same("the lane is given back", lasting.inLane(2, 20), -1);
            CHECK.same("doneShare", lasting.doneShare(), 0.0f);
            CHECK.same("a second hold gives nothing back", lasting.hold(1, kind, 30), 0);
            CHECK.same("pass", lasting.pass(20), 0);
            CHECK.same("state when the hour has come", lasting.stateOf(0), 'g');

            Quaylock ending = towerWithBooking(20);
            CHECK.same("hold up to the hour", ending.hold(1, kind, 20), 0);
            CHECK.same("state", ending.stateOf(0), 'b');
            CHECK.same("made longer over the hour", ending.hold(1, kind, 1000), 1);
            CHECK.same("state", ending.stateOf(0), 'g');

            Quaylock other = towerWithBooking(20);
            CHECK.same("hold on another box", other.hold(0, kind, 1000), 0);
            CHECK.same("state", other.stateOf(0), 'b');

            Quaylock cancelled = towerWithBooking(20);
            cancelled.cancel(0);
            CHECK.same("hold on a box with a cancelled appointment", cancelled.hold(1, kind, 1000), 0);
            CHECK.same("state", cancelled.stateOf(0), 'c');
        }
        Quaylock last = towerWithBooking(999);
        CHECK.same("hold up to 999", last.hold(1, 'l', 999), 0);
        CHECK.same("hold for good", last.hold(1, 'l', 1000), 1);
    }

    private static void holdRefuses() {
        for (int box : NO_BOXES) {
            CHECK.refused("hold on " + box, HoldsTest::tower, x -> x.hold(box, 'p', 20),
                    IndexOutOfBoundsException.class);
            CHECK.refused("wrong hold on " + box, HoldsTest::tower, x -> x.hold(box, 'z', 5),
                    IndexOutOfBoundsException.class);
        }
        CHECK.refused("hold on one that has left", HoldsTest::oneHasLeft, x -> x.hold(0, 'p', 20),
                IndexOutOfBoundsException.class);
        for (char kind : new char[] {'-', 'P', 'L', 'q', 'o', 'm', 'k', 'z', ' ', 0, Character.MAX_VALUE}) {
            CHECK.refused("hold of kind " + (int) kind, HoldsTest::tower, x -> x.hold(1, kind, 20),
                    IllegalArgumentException.class);
            CHECK.refused("hold of kind " + (int) kind + " over one", () -> towerWithHold('l', 40),
                    x -> x.hold(1, kind, 20), IllegalArgumentException.class);
        }
        for (int until : new int[] {10, 9, 0, -1, 1001, Integer.MIN_VALUE, Integer.MAX_VALUE}) {
            CHECK.refused("hold until " + until, HoldsTest::tower, x -> x.hold(1, 'p', until),
                    IllegalArgumentException.class);
            CHECK.refused("hold until " + until + " over a booking", () -> towerWithBooking(20),
                    x -> x.hold(1, 'l', until), IllegalArgumentException.class);
        }
    }

    private static void holdAtTheLastHours() {
        Quaylock yard = atHour(998);
        CHECK.same("hold up to 999", yard.hold(0, 'p', 999), 0);
        yard.pass(1);
        CHECK.same("it has ended", yard.holdOf(0), '-');
        CHECK.same("hold for good in the last hour", yard.hold(0, 'p', 1000), 0);
        CHECK.same("heldUntil", yard.heldUntil(0), 1000);
        CHECK.refused("hold up to 999 in the last hour", () -> atHour(999), x -> x.hold(0, 'p', 999),
                IllegalArgumentException.class);
        Quaylock forGood = atHour(0);
        forGood.hold(0, 'l', 1000);
        while (forGood.now() < 984) {
            forGood.pass(24);
        }
        forGood.pass(15);
        CHECK.same("a hold for good in the last hour", forGood.holdOf(0), 'l');
    }

    private static void holdsEndWhenTheirHourComes() {
        for (char kind : new char[] {'p', 'l'}) {
            Quaylock yard = towerWithHold(kind, 13);
            yard.hold(2, kind, 14);
            yard.hold(3, kind, 13);
            yard.pass(2);
            CHECK.same("an hour before", "" + yard.holdOf(1) + yard.holdOf(2) + yard.holdOf(3),
                    "" + kind + kind + kind);
            yard.pass(1);
            CHECK.same("at the hour", "" + yard.holdOf(1) + yard.holdOf(2) + yard.holdOf(3), "-" + kind + "-");
            yard.pass(1);
            CHECK.same("an hour later", "" + yard.holdOf(1) + yard.holdOf(2) + yard.holdOf(3), "---");
        }
        Quaylock jumped = towerWithHold('p', 13);
        jumped.pass(24);
        CHECK.same("passed at once", jumped.holdOf(1), '-');
    }

    private static void release() {
        for (char kind : new char[] {'p', 'l'}) {
            for (int until : new int[] {11, 500, 1000}) {
                Quaylock yard = towerWithHold(kind, until);
                yard.hold(2, 'p', 77);
                CHECK.same("release", yard.release(1), until);
                CHECK.same("holdOf", yard.holdOf(1), '-');
                CHECK.same("the hold of another", yard.heldUntil(2), 77);
            }
        }
        Quaylock booked = towerWithBooking(20);
        booked.hold(1, 'p', 30);
        booked.release(1);
        CHECK.same("release does not bring the appointment again", booked.stateOf(0), 'g');
    }

    private static void releaseRefuses() {
        for (int box : NO_BOXES) {
            CHECK.refused("release " + box, HoldsTest::tower, x -> x.release(box), IndexOutOfBoundsException.class);
        }
        CHECK.refused("release of one that has left", HoldsTest::oneHasLeft, x -> x.release(0),
                IndexOutOfBoundsException.class);
        CHECK.refused("release without a hold", HoldsTest::tower, x -> x.release(1), IllegalStateException.class);
        CHECK.refused("release twice", () -> {
            Quaylock yard = towerWithHold('l', 30);
            yard.release(1);
            return yard;
        }, x -> x.release(1), IllegalStateException.class);
        CHECK.refused("release of a hold that has ended", () -> {
            Quaylock yard = towerWithHold('l', 12);
            yard.pass(2);
            return yard;
        }, x -> x.release(1), IllegalStateException.class);
    }

    private static void holdOfAndHeldUntil() {
        CHECK.onlyTells("holdOf without", HoldsTest::tower, x -> x.holdOf(1), '-');
        CHECK.onlyTells("holdOf pinned", () -> towerWithHold('p', 44), x -> x.holdOf(1), 'p');
        CHECK.onlyTells("holdOf locked", () -> towerWithHold('l', 44), x -> x.holdOf(1), 'l');
        CHECK.onlyTells("heldUntil", () -> towerWithHold('l', 44), x -> x.heldUntil(1), 44);
        CHECK.refused("heldUntil without", HoldsTest::tower, x -> x.heldUntil(1), NoSuchElementException.class);
        CHECK.refused("heldUntil of another", () -> towerWithHold('l', 44), x -> x.heldUntil(0),
                NoSuchElementException.class);
        CHECK.refused("heldUntil after the end", () -> {
            Quaylock yard = towerWithHold('p', 11);
            yard.pass(1);
            return yard;
        }, x -> x.heldUntil(1), NoSuchElementException.class);
        for (int box : NO_BOXES) {
            CHECK.refused("holdOf " + box, HoldsTest::tower, x -> x.holdOf(box), IndexOutOfBoundsException.class);
            CHECK.refused("heldUntil " + box, HoldsTest::tower, x -> x.heldUntil(box),
                    IndexOutOfBoundsException.class);
        }
        CHECK.refused("holdOf one that has left", HoldsTest::oneHasLeft, x -> x.holdOf(0),
                IndexOutOfBoundsException.class);
        CHECK.refused("heldUntil of one that has left", HoldsTest::oneHasLeft, x -> x.heldUntil(0),
                IndexOutOfBoundsException.class);
    }

    private static Quaylock towerWithPins(String kinds) {
        Quaylock yard = tower();
        for (int box = 0; box < 4; box++) {
            if (kinds.charAt(box) != '-') {
                yard.hold(box, kinds.charAt(box), 100);
            }
        }
        return yard;
    }

    private static void pinnedAbove() {
        String[] kinds = {"----", "pppp", "lppl", "pl-p", "llll", "---p"};
        int[][] due = {{0, 0, 0, 0}, {3, 2, 1, 0}, {2, 1, 0, 0}, {1, 1, 1, 0}, {0, 0, 0, 0}, {1, 1, 1, 0}};
        for (int i = 0; i < kinds.length; i++) {
            String pins = kinds[i];
            for (int k = 0; k < 4; k++) {
                int box = k;
                CHECK.onlyTells("pinnedAbove " + box + " of " + pins, () -> towerWithPins(pins),
                        x -> x.pinnedAbove(box), due[i][k]);
            }
        }
        for (int box : NO_BOXES) {
            CHECK.refused("pinnedAbove " + box, HoldsTest::tower, x -> x.pinnedAbove(box),
                    IndexOutOfBoundsException.class);
        }
        CHECK.refused("pinnedAbove one that has left", HoldsTest::oneHasLeft, x -> x.pinnedAbove(0),
                IndexOutOfBoundsException.class);
        Quaylock beside = towerWithPins("----");
        beside.move(3, 1);
        beside.hold(3, 'p', 50);
        CHECK.same("a pinned box in another stack", beside.pinnedAbove(0), 0);
    }
}
