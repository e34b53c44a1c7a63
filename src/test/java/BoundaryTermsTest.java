import java.util.function.Supplier;

/** "What it is", "The public face" and "Terms", sentence by sentence: the boundary cases. */
public final class BoundaryTermsTest {
    private static final char[] KINDS = {'p', 'l'};
    /** For how many calls an object is used after it has been made. */
    private static final int CALLS = 512;

    private static final Check CHECK = new Check("BoundaryTermsTest");

    public static void main(String[] args) {
        lastCallAfterMoves();
        lastCallAfterRefusedCalls();
        lastCallAfterPlans();
        lastCallAfterHours();
        lastCallAfterHoldsAndAppointments();
        stackNumbersInTheirOrder();
        reachIsTheGreatestNumberOfBoxes();
        boxNumbersFrom0To19();
        boxNumbersAreNotUsedAgain();
        eightInTheYardAtATime();
        weightDecidesAtTheTopAlone();
        levelCountsTheBoxesBelow();
        holdDoesNotLastInItsLastHour();
        holdForGood();
        pinnedBoxStaysAndLockedBoxMoves();
        holdEndsByItsHourOrByACall();
        holdsOfAllBoxesEnd();
        planStopsWhenTheBoxIsAtTheTop();
        planDoesNotMoveTheBoxItself();
        plansAreComparedMoveByMove();
        lanes0To2();
        appointmentNumbersFrom0To29();
        laneHasOneForAnHour();
        boxHasOneBooked();
        holdPutOnAfterTheBooking();
        holdMadeLongerOrShorter();
        hoursFrom0To999();
        holdsEndBeforeTheLanes();
        laneAfterLane();
        missedAppointmentChangesNothingElse();
        boxThatLeavesMakesItsMoves();
        refusedCallsChangeNothing();
        CHECK.end();
    }

    /** What it is, "An object is used for at most 512 calls": the last one still answers, after 508 moves. */
    private static void lastCallAfterMoves() {
        Quaylock yard = Scenes.yard("1 1", "30@0");
        for (int call = 4; call < CALLS; call++) {
            yard.move(0, call % 2 == 0 ? 1 : 0);
        }
        CHECK.same("call 512, moves", yard.moves(), 508);
        Quaylock moving = Scenes.yard("1 1", "30@0");
        for (int call = 4; call < CALLS; call++) {
            moving.move(0, call % 2 == 0 ? 1 : 0);
        }
        CHECK.same("call 512, move", moving.move(0, 1), 509);
    }

    /**
     * What it is, "An object is used for at most 512 calls": refused calls count, and leave the last one its answer.
     */
    private static void lastCallAfterRefusedCalls() {
        Quaylock yard = new Quaylock();
        int refused = 0;
        for (int call = 1; call < CALLS; call++) {
            try {
                yard.addStack(call % 2 == 0 ? 0 : 5);
            } catch (IllegalArgumentException e) {
                refused++;
            }
        }
        CHECK.same("511 refused calls", refused, CALLS - 1);
        CHECK.same("call 512, addStack", yard.addStack(4), 0);
    }

    /**
     * What it is, "An object is used for at most 512 calls": as many plans of a full yard, the last one as the first.
     */
    private static void lastCallAfterPlans() {
        Quaylock yard = Scenes.yard("4 4 4 4", "9@0 5@0 5@0 5@0 3@1 4@2 3@3 1@3");
        int due = yard.planLength(0);
        int calls = 4 + 8 + 1;
        while (calls < CALLS - 1) {
            calls += 2;
            CHECK.same("call " + (calls - 1) + ", planByTrying", yard.planByTrying(0), due);
            CHECK.same("call " + calls + ", planLength", yard.planLength(0), due);
        }
        CHECK.same("call 512, dig", yard.dig(0), due);
    }

    /** What it is, "An object is used for at most 512 calls": hours one by one, and the last one lets a box leave. */
    private static void lastCallAfterHours() {
        Quaylock yard = Scenes.yard("4 4", "30@0 30@0");
        yard.book(0, 507, 2);
        for (int call = 6; call < CALLS; call++) {
            yard.pass(1);
        }
        CHECK.same("call 512, pass", yard.pass(1), 1);
    }

    /**
     * What it is, "An object is used for at most 512 calls": holds again and again, 30 appointments, and the last one
     * is seen.
     */
    private static void lastCallAfterHoldsAndAppointments() {
        Quaylock yard = Scenes.yard("1", "30@0");
        int calls = 2;
        for (int i = 0; i < 30; i++) {
            yard.book(0, 1 + i, i % 3);
            yard.hold(0, 'l', 1000);
            yard.release(0);
            calls += 3;
        }
        while (calls < CALLS - 1) {
            yard.hold(0, calls % 2 == 0 ? 'p' : 'l', 1 + calls);
            calls++;
        }
        CHECK.same("call 512, heldUntil", yard.heldUntil(0), CALLS - 1);
    }

    /** Promise 2, "At most 4 stacks have the numbers 0 to n - 1 in the order in which they were added". */
    private static void stackNumbersInTheirOrder() {
        int[] reaches = {3, 1, 4, 2};
        Quaylock yard = new Quaylock();
        for (int number = 0; number < 4; number++) {
            CHECK.same("stack number", yard.addStack(reaches[number]), number);
            CHECK.same("its height", yard.height(number), 0);
        }
        String made = "3 1 4 2";
        for (int i = 0; i < 4; i++) {
            int number = i;
            Supplier<Quaylock> full = () -> Scenes.yard(made, (" 5@" + number).repeat(reaches[number]).trim());
            CHECK.refused("a box more than the reach of stack " + i, full, x -> x.addBox(5, number), Boundary.CANNOT);
        }
        Quaylock later = Scenes.eightBoxes();
        CHECK.same("no more than 4, with boxes in them", later.height(3), 0);
    }

    /**
     * Promises 2, 3, 18 and 23, "A stack has a reach [..], which is the greatest number of boxes in it": by coming,
     * moving and digging.
     */
    private static void reachIsTheGreatestNumberOfBoxes() {
        for (int reach = 1; reach <= 4; reach++) {
            String reaches = reach + " 4";
            String full = "5@0 ".repeat(reach) + "5@1 5@1";
            String oneLess = "5@0 ".repeat(reach - 1) + "5@1 5@1";
            int top = reach + 1;
            int below = reach;
            CHECK.refused("coming to a full stack of " + reach, () -> Scenes.yard(reaches, full), x -> x.addBox(5, 0),
                    Boundary.CANNOT);
            CHECK.refused("moved to a full stack of " + reach, () -> Scenes.yard(reaches, full), x -> x.move(top, 0),
                    Boundary.CANNOT);
            CHECK.refused("dug to a full stack of " + reach, () -> Scenes.yard(reaches, full), x -> x.dig(below),
                    Boundary.NONE);
            CHECK.same("moved to the last place of " + reach, Scenes.yard(reaches, oneLess).move(top - 1, 0), 1);
            CHECK.same("dug to the last place of " + reach, Scenes.yard(reaches, oneLess).dig(below - 1), 1);
            CHECK.same("coming to the last place of " + reach, Scenes.yard(reaches, oneLess).addBox(5, 0), reach + 1);
        }
    }

    /** Promise 3, "At most 20 boxes come, numbered from 0". */
    private static void boxNumbersFrom0To19() {
        Quaylock yard = Scenes.fourStacks();
        for (int number = 0; number < 20; number++) {
            CHECK.same("box number", yard.addBox(1 + number, number % 4), number);
            CHECK.same("its weight", yard.weight(number), 1 + number);
            Scenes.passed(1, Scenes.booked(number, number + 1, number % 3, yard));
        }
        CHECK.same("boxes", yard.boxes(), 0);
        CHECK.refused("a twenty-first", Scenes::twentyHaveLeft, x -> x.addBox(1, 0), Boundary.STATE);
    }

    /** Promise 3, "Numbered from 0": a box that comes after one has left has a number of its own. */
    private static void boxNumbersAreNotUsedAgain() {
        Quaylock yard = Scenes.oneHasLeft();
        CHECK.same("the next number", yard.addBox(8, 1), 4);
        CHECK.same("the one that has left", yard.isInYard(3), false);
        CHECK.same("the one that came", yard.isInYard(4), true);
        CHECK.same("at the place of the one that left", yard.boxAt(1, 0), 4);
    }

    /** Promise 3, "At most 8 are in the yard at a time": one more when one has left, over and over. */
    private static void eightInTheYardAtATime() {
        Quaylock yard = Scenes.eightBoxes();
        for (int number = 8; number < 20; number++) {
            int leaving = number - 1;
            int stack = yard.stackOf(leaving);
            CHECK.same("a box leaves", Scenes.booked(leaving, yard.now() + 1, 0, yard).pass(1), 1);
            CHECK.same("boxes then", yard.boxes(), 7);
            CHECK.same("one more", yard.addBox(7, stack), number);
            CHECK.same("boxes then", yard.boxes(), 8);
        }
        CHECK.refused("a ninth", Scenes::eightBoxes, x -> x.addBox(7, 3), Boundary.STATE);
    }

    /**
     * Promises 3 and 18, "If this is empty or the box at its top is not lighter": the same weight is not; boxes below
     * don't count.
     */
    private static void weightDecidesAtTheTopAlone() {
        Supplier<Quaylock> scene = () -> Scenes.yard("4 4", "9@0 5@0");
        CHECK.same("the weight of the top", scene.get().addBox(5, 0), 2);
        CHECK.same("lighter than the top by 1", scene.get().addBox(4, 0), 2);
        for (int weight : new int[] {6, 9, 10, 30}) {
            CHECK.refused("heavier than the top: " + weight, scene, x -> x.addBox(weight, 0), Boundary.CANNOT);
        }
        for (int weight = 1; weight <= 30; weight++) {
            int coming = weight;
            CHECK.same("any weight to an empty stack", scene.get().addBox(weight, 1), 2);
            CHECK.same("the same weight", Scenes.yard("2", weight + "@0").addBox(weight, 0), 1);
            if (weight < 30) {
                CHECK.refused("heavier by 1 than " + weight, () -> Scenes.yard("2", coming + "@0"),
                        x -> x.addBox(coming + 1, 0), Boundary.CANNOT);
                CHECK.refused("moved onto one lighter by 1 than " + (weight + 1),
                        () -> Scenes.yard("2 2", coming + "@0 " + (coming + 1) + "@1"), x -> x.move(1, 0),
                        Boundary.CANNOT);
            }
        }
    }

    /** Promise 8, "The level of a box is the number of boxes below it": 0 with none, 3 with as many as can be. */
    private static void levelCountsTheBoxesBelow() {
        Quaylock yard = Scenes.yard("4", "");
        for (int level = 0; level < 4; level++) {
            int box = yard.addBox(9 - level, 0);
            CHECK.same("level", yard.level(box), level);
            CHECK.same("the box at it", yard.boxAt(0, level), box);
        }
    }

    /**
     * Promises 12, 25 and 30, "A hold up to an hour, this one not included": the hour before is held, the hour itself
     * is free.
     */
    private static void holdDoesNotLastInItsLastHour() {
        for (char kind : KINDS) {
            for (int hour : new int[] {12, 20, 999}) {
                Supplier<Quaylock> held = () -> Scenes.held(2, kind, hour, Scenes.four());
                CHECK.refused("the hour before " + hour, held, x -> x.book(2, hour - 1, 0), Boundary.CANNOT);
                CHECK.same("the hour " + hour, held.get().book(2, hour, 0), 0);
                CHECK.onlyTells("the first hour without", held, x -> x.firstHour(2), hour);
            }
        }
    }

    /** Promises 12 and 13, "Or for good": it does not end with the last hour, but by a call. */
    private static void holdForGood() {
        for (char kind : KINDS) {
            Quaylock yard = Scenes.at(999, Scenes.held(2, kind, 1000, Scenes.four()));
            CHECK.same("in the last hour", yard.holdOf(2), kind);
            CHECK.same("ended by a call", yard.release(2), 1000);
            CHECK.same("then", yard.holdOf(2), '-');
        }
    }

    /**
     * Promises 12, 18, 23 and 31, "'p', by which the box is neither moved nor leaves, or 'l', by which it can be moved,
     * but does not leave".
     */
    private static void pinnedBoxStaysAndLockedBoxMoves() {
        CHECK.refused("a pinned box is not moved", () -> Scenes.held(2, 'p', 11, Scenes.four()), x -> x.move(2, 2),
                Boundary.CANNOT);
        CHECK.refused("nor by a plan", () -> Scenes.held(2, 'p', 11, Scenes.four()), x -> x.dig(1), Boundary.NONE);
        CHECK.same("a locked box is moved", Scenes.held(2, 'l', 1000, Scenes.four()).move(2, 2), 1);
        CHECK.same("and by a plan", Scenes.held(2, 'l', 1000, Scenes.four()).dig(1), 1);
        for (char kind : KINDS) {
            CHECK.same("a held box does not leave: its appointment is given back",
                    Scenes.held(2, kind, 21, Scenes.oneBooked()).pass(24), 0);
        }
    }

    /** Promises 13 and 31, "A hold ends when its hour comes, or by a call". */
    private static void holdEndsByItsHourOrByACall() {
        for (char kind : KINDS) {
            for (int lasting : new int[] {1, 2, 24}) {
                Quaylock yard = Scenes.held(2, kind, 10 + lasting, Scenes.four());
                if (lasting > 1) {
                    yard.pass(lasting - 1);
                }
                CHECK.same("an hour before it ends", yard.holdOf(2), kind);
                yard.pass(1);
                CHECK.same("when its hour has come", yard.holdOf(2), '-');
            }
            CHECK.same("by a call, an hour before", Scenes.held(2, kind, 11, Scenes.four()).release(2), 11);
        }
    }

    /**
     * Promise 31, "A hold ends when its hour comes": those of all boxes whose hour it is, of the first and of the last
     * too.
     */
    private static void holdsOfAllBoxesEnd() {
        for (char kind : KINDS) {
            Quaylock yard = Scenes.eightBoxes();
            for (int box = 0; box < 8; box++) {
                yard.hold(box, kind, box == 4 ? 6 : 5);
            }
            yard.pass(4);
            CHECK.same("an hour before they end", holds(yard, 8), ("" + kind).repeat(8));
            yard.pass(1);
            CHECK.same("when their hour has come", holds(yard, 8), "----" + kind + "---");
            yard.pass(1);
            CHECK.same("when the last one's has come", holds(yard, 8), "--------");
            Quaylock last = Scenes.held(19, kind, 20, Scenes.twentyHaveCome());
            CHECK.same("box 19, an hour before", last.holdOf(19), kind);
            CHECK.same("box 19, its hour", Scenes.passed(1, last).holdOf(19), '-');
        }
    }

    private static String holds(Quaylock yard, int boxes) {
        StringBuilder kinds = new StringBuilder();
        for (int box = 0; box < boxes; box++) {
            kinds.append(yard.holdOf(box));
        }
        return kinds.toString();
    }

    /** Promises 19 and 21, "Until it is at the top of its stack": no move is made behind that. */
    private static void planStopsWhenTheBoxIsAtTheTop() {
        CHECK.onlyTells("at the top already", Scenes::four, x -> x.planLength(2), 0);
        CHECK.onlyTells("at the top after one move", Scenes::four, x -> x.planLength(1), 1);
        CHECK.refused("the plan has no second move", Scenes::four, x -> x.planBox(1, 1), Boundary.NONE);
    }

    /**
     * Promises 19 and 23, "The box itself is not moved": it stays where it is, and can be dug out though it is pinned.
     */
    private static void planDoesNotMoveTheBoxItself() {
        Quaylock yard = Scenes.four();
        yard.dig(0);
        CHECK.same("its stack", yard.stackOf(0), 0);
        CHECK.same("its level", yard.level(0), 0);
        CHECK.onlyTells("a pinned box has a plan", () -> Scenes.held(0, 'p', 1000, Scenes.four()),
                x -> x.planLength(0), 2);
    }

    /**
     * Promises 21 and 22, "The plan comes first in which the box that is moved has the lower number, and for the same
     * box [..]".
     */
    private static void plansAreComparedMoveByMove() {
        Supplier<Quaylock> threeStacks = () -> Scenes.yard("1 4 1 1", "9@1 8@1");
        CHECK.onlyTells("the same box, the lower stack", threeStacks, x -> x.planStack(0, 0), 0);
        // Box 4 needs an empty stack, and each of the boxes 0, 1 and 2 could make one by going onto another of them.
        Supplier<Quaylock> each = () -> Scenes.yard("4 4 4 4", "3@1 3@2 3@3 9@0 5@0");
        CHECK.onlyTells("the lower box first", each, x -> x.planBox(3, 0), 0);
        CHECK.onlyTells("the lower box to the lower stack", each, x -> x.planStack(3, 0), 2);
        CHECK.onlyTells("then the box above", each, x -> x.planBox(3, 1), 4);
        CHECK.onlyTells("to the place that was made", each, x -> x.planStack(3, 1), 1);
        Supplier<Quaylock> laterMoves = () -> Scenes.yard("4 1 1 1", "9@0 8@0 7@0");
        CHECK.onlyTells("the second move is compared too", laterMoves, x -> x.planStack(0, 1), 2);
    }

    /** Promises 25 and 29, "The gate has the lanes 0, 1 and 2". */
    private static void lanes0To2() {
        for (int lane = 0; lane < 3; lane++) {
            CHECK.same("lane " + lane, Scenes.four().book(0, 20, lane), 0);
        }
        for (int lane : new int[] {-1, 3}) {
            CHECK.refused("book in lane " + lane, Scenes::four, x -> x.book(0, 20, lane), Boundary.NO_SUCH);
            CHECK.refused("inLane " + lane, Scenes::four, x -> x.inLane(lane, 20), Boundary.NO_SUCH);
        }
    }

    /**
     * Promises 25 and 27, "At most 30 appointments have the numbers 0 to n - 1 in the order in which they were booked".
     */
    private static void appointmentNumbersFrom0To29() {
        Quaylock yard = Scenes.four();
        for (int number = 0; number < 30; number++) {
            // A later one for an earlier hour has the higher number all the same.
            CHECK.same("number", yard.book(0, 900 - number, 1), number);
            yard.cancel(number);
        }
        CHECK.refused("a thirty-first", Scenes::thirtyBooked, x -> x.book(1, 20, 0), Boundary.STATE);
        CHECK.refused("a thirty-first number", Scenes::thirtyBooked, x -> x.stateOf(30), Boundary.NO_SUCH);
    }

    /**
     * Promise 25, "A lane has at most one booked appointment for an hour": those that are booked no more do not count.
     */
    private static void laneHasOneForAnHour() {
        CHECK.refused("a second one", Scenes::oneBooked, x -> x.book(1, 20, 2), Boundary.STATE);
        CHECK.same("after a cancelled one", Scenes.cancelled(0, Scenes.oneBooked()).book(1, 20, 2), 1);
        CHECK.same("after one that was given back", Scenes.givenBack().book(1, 20, 2), 1);
    }

    /** Promise 25, "A box has at most one booked appointment": those that are booked no more do not count. */
    private static void boxHasOneBooked() {
        CHECK.refused("a second one", Scenes::oneBooked, x -> x.book(2, 999, 0), Boundary.STATE);
        CHECK.same("after a cancelled one", Scenes.cancelled(0, Scenes.oneBooked()).book(2, 999, 0), 1);
        CHECK.same("after one that was given back", Scenes.givenBack().book(2, 999, 0), 1);
        CHECK.same("after a missed one", Scenes.missed().book(0, 999, 0), 1);
    }

    /**
     * Promise 12, "When a hold is put on a box [..], and its booked appointment is for an hour in which the hold
     * lasts".
     */
    private static void holdPutOnAfterTheBooking() {
        for (char kind : KINDS) {
            CHECK.same("the hold ends with the hour before", Scenes.oneBooked().hold(2, kind, 20), 0);
            CHECK.same("the hold lasts in the hour", Scenes.oneBooked().hold(2, kind, 21), 1);
            Quaylock kept = Scenes.held(2, kind, 20, Scenes.oneBooked());
            CHECK.same("it leaves when the hold has ended", kept.pass(10), 1);
        }
    }

    /** Promise 12, "Or made longer": up to the hour of the appointment it stays, one hour more and it is given back. */
    private static void holdMadeLongerOrShorter() {
        for (char kind : KINDS) {
            Quaylock yard = Scenes.held(2, kind, 15, Scenes.oneBooked());
            CHECK.same("made longer up to the hour before", yard.hold(2, kind, 19), 0);
            CHECK.same("made longer up to the hour", yard.hold(2, kind, 20), 0);
            CHECK.same("made shorter", yard.hold(2, kind, 11), 0);
            CHECK.same("booked still", yard.stateOf(0), 'b');
            CHECK.same("made longer by the hour", yard.hold(2, kind, 21), 1);
            CHECK.same("made shorter again", yard.hold(2, kind, 11), 0);
            CHECK.same("given back for ever", yard.stateOf(0), 'g');
        }
    }

    /** Promises 31 and 32, "The hour is 0 at first, and 999 is the last one". */
    private static void hoursFrom0To999() {
        Quaylock yard = new Quaylock();
        CHECK.same("at first", yard.now(), 0);
        for (int i = 0; i < 41; i++) {
            yard.pass(24);
        }
        CHECK.same("after 41 days", yard.now(), 984);
        CHECK.same("up to the last", yard.pass(15), 0);
        CHECK.same("the last", yard.now(), 999);
        CHECK.refused("none behind it", () -> Scenes.at(999, new Quaylock()), x -> x.pass(1), Boundary.WRONG);
    }

    /** Promise 31, "When an hour comes, first the holds end whose hour it is": before the first lane is looked at. */
    private static void holdsEndBeforeTheLanes() {
        for (char kind : KINDS) {
            Quaylock own = Scenes.booked(2, 11, 0, Scenes.held(2, kind, 11, Scenes.four()));
            CHECK.same("the hold of the box itself ends in the hour", own.pass(1), 1);
            Quaylock above = Scenes.booked(1, 11, 0, Scenes.held(2, kind, 11, Scenes.four()));
            CHECK.same("the hold of the box above ends in the hour", above.pass(1), 1);
            Quaylock higher = Scenes.booked(0, 11, 0, Scenes.held(3, 'l', 11, Scenes.held(2, kind, 11, Scenes.four())));
            CHECK.same("two holds end in the hour", higher.pass(1), 1);
        }
        CHECK.same("a pin above that lasts an hour longer",
                Scenes.booked(1, 11, 0, Scenes.held(2, 'p', 12, Scenes.four())).pass(1), 0);
    }

    /**
     * Promise 31, "Then, lane after lane": what lane 0 does, lane 1 finds, and so on; the order of booking does not
     * matter.
     */
    private static void laneAfterLane() {
        // Box 1 can leave only when box 2 above it has left, and so on.
        Supplier<Quaylock> tower = () -> Scenes.yard("3", "5@0 5@0 5@0");
        int[][] lanes = {{2, 1, 0}, {1, 2, 0}, {2, 0, 1}, {0, 2, 1}, {1, 0, 2}, {0, 1, 2}};
        String[] due = {"ddd", "mdd", "mmd", "mdd", "mmd", "mmd"};
        for (int i = 0; i < lanes.length; i++) {
            Quaylock yard = tower.get();
            for (int box = 0; box < 3; box++) {
                yard.book(box, 1, lanes[i][box]);
            }
            yard.pass(1);
            String label = "the boxes have the lanes " + lanes[i][0] + lanes[i][1] + lanes[i][2];
            CHECK.same(label, "" + yard.stateOf(0) + yard.stateOf(1) + yard.stateOf(2), due[i]);
        }
    }

    /** Promise 31, "Otherwise it is missed": no move is made, and the box stays. */
    private static void missedAppointmentChangesNothingElse() {
        Quaylock yard = Scenes.missed();
        CHECK.same("state", yard.stateOf(0), 'm');
        CHECK.same("moves", yard.moves(), 0);
        CHECK.same("boxes", yard.boxes(), 4);
        CHECK.same("weightLeft", yard.weightLeft(), 0L);
        CHECK.same("the lane is free", yard.inLane(0, 11), -1);
    }

    /** Promise 31, "The moves of the plan are made, the box leaves the yard, and it is done". */
    private static void boxThatLeavesMakesItsMoves() {
        Quaylock yard = Scenes.booked(0, 11, 2, Scenes.four());
        CHECK.same("boxes that leave", yard.pass(1), 1);
        CHECK.same("state", yard.stateOf(0), 'd');
        CHECK.same("moves", yard.moves(), 2);
        CHECK.same("the stack is empty", yard.height(0), 0);
        CHECK.same("where the boxes above came to", "" + yard.stackOf(2) + yard.stackOf(1), "12");
        CHECK.same("weightLeft", yard.weightLeft(), 9L);
    }

    /**
     * Promises 2 to 34, "A method that throws an exception changes nothing": many refused calls, one after the other.
     */
    private static void refusedCallsChangeNothing() {
        Supplier<Quaylock> scene = () -> Scenes.held(1, 'p', 30, Scenes.booked(0, 40, 1, Scenes.oneBooked()));
        Check.Call[] refused = {
            x -> x.addStack(0), x -> x.addStack(5), x -> x.addBox(5, 3), x -> x.addBox(31, 0), x -> x.addBox(6, 0),
            x -> x.weight(4), x -> x.stackOf(-1), x -> x.level(20), x -> x.above(4), x -> x.height(3),
            x -> x.boxAt(0, 3), x -> x.hold(4, 'p', 20), x -> x.hold(0, 'x', 20), x -> x.hold(0, 'p', 10),
            x -> x.release(0), x -> x.holdOf(4), x -> x.heldUntil(0), x -> x.pinnedAbove(4), x -> x.why(0, 3),
            x -> x.move(0, 1), x -> x.move(2, 0), x -> x.move(3, 0), x -> x.planLength(0), x -> x.planByTrying(0),
            x -> x.planBox(0, 0), x -> x.planStack(1, 1), x -> x.dig(0), x -> x.book(1, 29, 0),
            x -> x.book(2, 50, 0), x -> x.book(3, 20, 2), x -> x.book(3, 1000, 0), x -> x.cancel(2),
            x -> x.stateOf(2), x -> x.appointmentOf(1), x -> x.inLane(3, 0), x -> x.inLane(0, 1000),
            x -> x.firstHour(4), x -> x.pass(0), x -> x.pass(25), x -> x.doneShare()
        };
        CHECK.same("refused calls", refusedOf(scene.get(), refused), refused.length);
        CHECK.alike("after all of them", () -> {
            Quaylock yard = scene.get();
            refusedOf(yard, refused);
            return yard;
        }, scene);
    }

    private static int refusedOf(Quaylock yard, Check.Call[] calls) {
        int refused = 0;
        for (Check.Call call : calls) {
            try {
                call.on(yard);
            } catch (RuntimeException e) {
                refused++;
            }
        }
        return refused;
    }
}
