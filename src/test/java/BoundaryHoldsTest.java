/** Promises 12 to 16, sentence by sentence: the boundary cases. */
public final class BoundaryHoldsTest {
    private static final char[] KINDS = {'p', 'l'};

    private static final Check CHECK = new Check("BoundaryHoldsTest");
    private static final Boundary BOUNDARY = new Boundary(CHECK);

    public static void main(String[] args) {
        holdFromTheNextHourToForGood();
        holdHourNotBehindThisOne();
        holdHourAbove1000();
        holdNoSuchKind();
        holdNoSuchBox();
        holdOrder();
        holdInPlaceOfTheOneThatItHas();
        holdGivesBackFromTheHourBeforeItsEnd();
        holdGivesBackOnce();
        holdGivesBackNothing();
        holdRefusedGivesNothingBack();
        releaseTellsTheHour();
        releaseWithoutAHold();
        releaseNoSuchBox();
        holdOfNone();
        holdOfNoSuchBox();
        heldUntilLeastAndForGood();
        heldUntilNone();
        heldUntilNoSuchBox();
        pinnedAboveNoneAndMost();
        pinnedAboveOtherHolds();
        pinnedAboveNoSuchBox();
        CHECK.end();
    }

    private static Quaylock oneBox(int hour) {
        return Scenes.at(hour, Scenes.yard("1", "5@0"));
    }

    /** Promise 12, "until: its hour, or 1000 for good": the next hour is the least, 1000 the greatest. */
    private static void holdFromTheNextHourToForGood() {
        for (char kind : KINDS) {
            for (int hour : new int[] {0, 1, 10, 998, 999}) {
                for (int until : new int[] {hour + 1, 1000}) {
                    Quaylock yard = oneBox(hour);
                    CHECK.same("promise 12, in hour " + hour + " up to " + until, yard.hold(0, kind, until), 0);
                    CHECK.same("promise 12, its hour", yard.heldUntil(0), until);
                    CHECK.same("promise 12, its kind", yard.holdOf(0), kind);
                }
            }
            CHECK.same("promise 12, up to the last hour", oneBox(0).hold(0, kind, 999), 0);
        }
    }

    /** Promise 12, "Throws IllegalArgumentException if [..] its hour is not behind this one". */
    private static void holdHourNotBehindThisOne() {
        for (char kind : KINDS) {
            for (int hour : new int[] {0, 1, 10, 998, 999}) {
                for (int until : new int[] {hour, hour - 1, 0, -1}) {
                    CHECK.refused("promise 12, in hour " + hour + " up to " + until, () -> oneBox(hour),
                            x -> x.hold(0, kind, until), Boundary.WRONG);
                }
            }
        }
    }

    /** Promise 12, "Throws IllegalArgumentException if [..] its hour is not [..] at most 1000". */
    private static void holdHourAbove1000() {
        for (char kind : KINDS) {
            for (int hour : new int[] {0, 10, 999}) {
                for (int until : new int[] {1001, 1002, 2000}) {
                    CHECK.refused("promise 12, in hour " + hour + " up to " + until, () -> oneBox(hour),
                            x -> x.hold(0, kind, until), Boundary.WRONG);
                }
            }
        }
        for (int until : new int[] {Integer.MIN_VALUE, Integer.MAX_VALUE, -(1 << 30), 1 << 30, 1 << 16}) {
            CHECK.refused("promise 12, up to " + until, Scenes::four, x -> x.hold(0, 'p', until), Boundary.WRONG);
        }
    }

    /** Promise 12, "Throws IllegalArgumentException if there is no such kind": of all signs, p and l alone are. */
    private static void holdNoSuchKind() {
        int refused = 0;
        Quaylock yard = Scenes.four();
        for (int sign = Character.MIN_VALUE; sign <= Character.MAX_VALUE; sign++) {
            if (sign == 'p' || sign == 'l') {
                continue;
            }
            // An object is used for at most 512 calls.
            if (sign % 400 == 0) {
                yard = Scenes.four();
            }
            try {
                CHECK.same("promise 12, the sign " + sign, yard.hold(0, (char) sign, 20), "an exception");
            } catch (IllegalArgumentException e) {
                refused++;
            }
        }
        CHECK.same("promise 12, signs that are no kind", refused, Character.MAX_VALUE - 1);
        for (char kind : new char[] {0, '-', 'P', 'L', 'k', 'm', 'o', 'q', 'p' + 256, 'l' + 256, Character.MAX_VALUE}) {
            CHECK.refused("promise 12, kind " + (int) kind, Scenes::oneBooked, x -> x.hold(2, kind, 1000),
                    Boundary.WRONG);
            CHECK.refused("promise 12, kind " + (int) kind + " over a hold",
                    () -> Scenes.held(2, 'p', 15, Scenes.oneBooked()), x -> x.hold(2, kind, 1000), Boundary.WRONG);
        }
    }

    /** Promise 12, "Throws IndexOutOfBoundsException if there is no such box in the yard". */
    private static void holdNoSuchBox() {
        BOUNDARY.boxesNotInTheYard("promise 12, hold", (x, box) -> x.hold(box, 'p', 1000));
    }

    /** Promise 12, "If several exceptions apply, the one that is listed first is thrown". */
    private static void holdOrder() {
        BOUNDARY.boxesNotInTheYard("promise 12, no box before kind", (x, box) -> x.hold(box, 'z', 1000));
        BOUNDARY.boxesNotInTheYard("promise 12, no box before hour", (x, box) -> x.hold(box, 'l', 0));
        BOUNDARY.boxesNotInTheYard("promise 12, no box before both", (x, box) -> x.hold(box, '-', 1001));
        CHECK.refused("promise 12, kind and hour", Scenes::four, x -> x.hold(0, 'z', 10), Boundary.WRONG);
    }

    /** Promise 12, "Puts a hold on a box, in place of the one that it has": longer, shorter, alike, for good. */
    private static void holdInPlaceOfTheOneThatItHas() {
        for (char before : KINDS) {
            for (char kind : KINDS) {
                for (int until : new int[] {11, 19, 20, 21, 1000}) {
                    for (int lasting : new int[] {20, 1000}) {
                        CHECK.alike("promise 12, " + kind + until + " in place of " + before + lasting,
                                () -> Scenes.held(2, kind, until, Scenes.held(2, before, lasting, Scenes.four())),
                                () -> Scenes.held(2, kind, until, Scenes.four()));
                    }
                }
            }
        }
    }

    /** Promise 12, "Returns 1 if an appointment is given back by this": its hour is before the one of the hold. */
    private static void holdGivesBackFromTheHourBeforeItsEnd() {
        for (char kind : KINDS) {
            for (int hour : new int[] {12, 20, 999}) {
                Quaylock kept = Scenes.booked(2, hour, 2, Scenes.four());
                CHECK.same("promise 12, up to the hour " + hour, kept.hold(2, kind, hour), 0);
                CHECK.same("promise 12, its state", kept.stateOf(0), 'b');
                CHECK.same("promise 12, its lane", kept.inLane(2, hour), 0);
                Quaylock lost = Scenes.booked(2, hour, 2, Scenes.four());
                CHECK.same("promise 12, over the hour " + hour, lost.hold(2, kind, hour + 1), 1);
                CHECK.same("promise 12, its state", lost.stateOf(0), 'g');
                CHECK.same("promise 12, its lane", lost.inLane(2, hour), -1);
                Quaylock longer = Scenes.held(2, kind, hour, Scenes.booked(2, hour, 2, Scenes.four()));
                CHECK.same("promise 12, made longer over the hour " + hour, longer.hold(2, kind, hour + 1), 1);
                CHECK.same("promise 12, its state", longer.stateOf(0), 'g');
            }
            Quaylock next = Scenes.booked(2, 11, 2, Scenes.four());
            CHECK.same("promise 12, booked for the next hour, up to it", next.hold(2, kind, 11), 0);
            CHECK.same("promise 12, booked for the next hour, over it", next.hold(2, kind, 12), 1);
        }
    }

    /** Promise 12, "Returns 1 if an appointment is given back by this, 0 otherwise": not a second time. */
    private static void holdGivesBackOnce() {
        for (char kind : KINDS) {
            Quaylock yard = Scenes.givenBack();
            CHECK.same("promise 12, the same hold once more", yard.hold(2, kind, 21), 0);
            CHECK.same("promise 12, for good", yard.hold(2, kind, 1000), 0);
            CHECK.same("promise 12, the state stays", yard.stateOf(0), 'g');
        }
        Quaylock again = Scenes.givenBack();
        again.release(2);
        CHECK.same("promise 12, the number of a new appointment", again.book(2, 20, 2), 1);
        CHECK.same("promise 12, the new one is given back", again.hold(2, 'p', 21), 1);
        CHECK.same("promise 12, both states", "" + again.stateOf(0) + again.stateOf(1), "gg");
    }

    /** Promise 12, "0 otherwise": only the booked appointment of this very box is given back. */
    private static void holdGivesBackNothing() {
        for (char kind : KINDS) {
            CHECK.same("promise 12, no appointment", Scenes.four().hold(2, kind, 1000), 0);
            Quaylock other = Scenes.oneBooked();
            CHECK.same("promise 12, the appointment of another box", other.hold(1, kind, 1000), 0);
            CHECK.same("promise 12, its state", other.stateOf(0), 'b');
            Quaylock cancelled = Scenes.cancelled(0, Scenes.oneBooked());
            CHECK.same("promise 12, a cancelled one", cancelled.hold(2, kind, 1000), 0);
            CHECK.same("promise 12, its state", cancelled.stateOf(0), 'c');
            Quaylock missed = Scenes.missed();
            CHECK.same("promise 12, a missed one", missed.hold(0, kind, 1000), 0);
            CHECK.same("promise 12, its state", missed.stateOf(0), 'm');
        }
    }

    /** Promise 12, "A method that throws an exception changes nothing": the appointment stays booked. */
    private static void holdRefusedGivesNothingBack() {
        CHECK.refused("promise 12, wrong kind over a booking", Scenes::oneBooked, x -> x.hold(2, 'z', 1000),
                Boundary.WRONG);
        CHECK.refused("promise 12, wrong hour over a booking", Scenes::oneBooked, x -> x.hold(2, 'p', 1001),
                Boundary.WRONG);
        CHECK.refused("promise 12, this hour over a booking", Scenes::oneBooked, x -> x.hold(2, 'p', 10),
                Boundary.WRONG);
    }

    /** Promise 13, "Returns the hour up to which it would have lasted". */
    private static void releaseTellsTheHour() {
        for (char kind : KINDS) {
            for (int until : new int[] {11, 999, 1000}) {
                CHECK.same("promise 13, up to " + until, Scenes.held(2, kind, until, Scenes.four()).release(2), until);
                CHECK.alike("promise 13, released", () -> {
                    Quaylock yard = Scenes.held(2, kind, until, Scenes.four());
                    yard.release(2);
                    return yard;
                }, Scenes::four);
            }
            CHECK.same("promise 13, in the last hour", Scenes.held(0, kind, 1000, oneBox(999)).release(0), 1000);
        }
        Quaylock replaced = Scenes.held(2, 'l', 11, Scenes.held(2, 'p', 1000, Scenes.four()));
        CHECK.same("promise 13, the hour of the hold that came in place", replaced.release(2), 11);
    }

    /** Promise 13, "Throws IllegalStateException if it has none". */
    private static void releaseWithoutAHold() {
        CHECK.refused("promise 13, it never had one", Scenes::four, x -> x.release(2), Boundary.STATE);
        CHECK.refused("promise 13, another has one", () -> Scenes.held(1, 'p', 1000, Scenes.four()), x -> x.release(2),
                Boundary.STATE);
        for (char kind : KINDS) {
            CHECK.refused("promise 13, it was released", () -> {
                Quaylock yard = Scenes.held(2, kind, 30, Scenes.four());
                yard.release(2);
                return yard;
            }, x -> x.release(2), Boundary.STATE);
            CHECK.refused("promise 13, its hour has come",
                    () -> Scenes.passed(1, Scenes.held(2, kind, 11, Scenes.four())), x -> x.release(2),
                    Boundary.STATE);
            CHECK.same("promise 13, an hour before its hour",
                    Scenes.passed(1, Scenes.held(2, kind, 12, Scenes.four())).release(2), 12);
        }
    }

    /** Promise 13, "Throws IndexOutOfBoundsException if there is no such box in the yard", and first of the two. */
    private static void releaseNoSuchBox() {
        BOUNDARY.boxesNotInTheYard("promise 13, release", (x, box) -> x.release(box));
    }

    /** Promise 14, "Returns 'p' or 'l', or '-' if it has none". */
    private static void holdOfNone() {
        CHECK.onlyTells("promise 14, it never had one", Scenes::four, x -> x.holdOf(2), '-');
        for (char kind : KINDS) {
            CHECK.onlyTells("promise 14, it has one", () -> Scenes.held(2, kind, 11, Scenes.four()), x -> x.holdOf(2),
                    kind);
            CHECK.onlyTells("promise 14, another has one", () -> Scenes.held(1, kind, 1000, Scenes.four()),
                    x -> x.holdOf(2), '-');
            CHECK.onlyTells("promise 14, an hour before its hour",
                    () -> Scenes.passed(4, Scenes.held(2, kind, 15, Scenes.four())), x -> x.holdOf(2), kind);
            CHECK.onlyTells("promise 14, its hour has come",
                    () -> Scenes.passed(5, Scenes.held(2, kind, 15, Scenes.four())), x -> x.holdOf(2), '-');
            CHECK.onlyTells("promise 14, for good, in the last hour", () -> Scenes.at(999,
                    Scenes.held(2, kind, 1000, Scenes.four())), x -> x.holdOf(2), kind);
            CHECK.onlyTells("promise 14, up to the last hour, in it", () -> Scenes.at(999,
                    Scenes.held(2, kind, 999, Scenes.four())), x -> x.holdOf(2), '-');
            CHECK.onlyTells("promise 14, up to the last hour, before it", () -> Scenes.at(998,
                    Scenes.held(2, kind, 999, Scenes.four())), x -> x.holdOf(2), kind);
        }
    }

    /** Promise 14, "Throws IndexOutOfBoundsException if there is no such box in the yard". */
    private static void holdOfNoSuchBox() {
        BOUNDARY.boxesNotInTheYard("promise 14, holdOf", (x, box) -> x.holdOf(box));
    }

    /** Promise 15, "Returns the hour, 1000 for good". */
    private static void heldUntilLeastAndForGood() {
        for (char kind : KINDS) {
            for (int until : new int[] {11, 999, 1000}) {
                CHECK.onlyTells("promise 15, up to " + until, () -> Scenes.held(2, kind, until, Scenes.four()),
                        x -> x.heldUntil(2), until);
            }
            CHECK.onlyTells("promise 15, for good, in the last hour",
                    () -> Scenes.at(999, Scenes.held(2, kind, 1000, Scenes.four())), x -> x.heldUntil(2), 1000);
        }
    }

    /** Promise 15, "Throws NoSuchElementException if it has none". */
    private static void heldUntilNone() {
        CHECK.refused("promise 15, it never had one", Scenes::four, x -> x.heldUntil(2), Boundary.NONE);
        for (char kind : KINDS) {
            CHECK.refused("promise 15, another has one", () -> Scenes.held(1, kind, 1000, Scenes.four()),
                    x -> x.heldUntil(2), Boundary.NONE);
            CHECK.refused("promise 15, its hour has come",
                    () -> Scenes.passed(1, Scenes.held(2, kind, 11, Scenes.four())), x -> x.heldUntil(2),
                    Boundary.NONE);
            CHECK.onlyTells("promise 15, an hour before its hour",
                    () -> Scenes.passed(1, Scenes.held(2, kind, 12, Scenes.four())), x -> x.heldUntil(2), 12);
            CHECK.refused("promise 15, it was released", () -> {
                Quaylock yard = Scenes.held(2, kind, 1000, Scenes.four());
                yard.release(2);
                return yard;
            }, x -> x.heldUntil(2), Boundary.NONE);
        }
    }

    /** Promise 15, "Throws IndexOutOfBoundsException if there is no such box in the yard", and first of the two. */
    private static void heldUntilNoSuchBox() {
        BOUNDARY.boxesNotInTheYard("promise 15, heldUntil", (x, box) -> x.heldUntil(box));
    }

    private static Quaylock tower() {
        return Scenes.at(10, Scenes.yard("4 4", "6@0 6@0 6@0 6@0"));
    }

    /** Promise 16, "Returns how many boxes above a box are pinned": none at the top, 3 the most. */
    private static void pinnedAboveNoneAndMost() {
        for (int i = 0; i < 4; i++) {
            int box = i;
            CHECK.onlyTells("promise 16, none pinned above " + box, BoundaryHoldsTest::tower, x -> x.pinnedAbove(box),
                    0);
            CHECK.onlyTells("promise 16, all pinned above " + box, () -> {
                Quaylock yard = tower();
                for (int pinned = 0; pinned < 4; pinned++) {
                    yard.hold(pinned, 'p', 1000);
                }
                return yard;
            }, x -> x.pinnedAbove(box), 3 - box);
        }
    }

    /** Promise 16, "above a box", "pinned": not the box itself, none below it, no hold of the kind l, no ended one. */
    private static void pinnedAboveOtherHolds() {
        CHECK.onlyTells("promise 16, the box itself", () -> Scenes.held(1, 'p', 1000, tower()), x -> x.pinnedAbove(1),
                0);
        CHECK.onlyTells("promise 16, one below", () -> Scenes.held(0, 'p', 1000, tower()), x -> x.pinnedAbove(1), 0);
        CHECK.onlyTells("promise 16, the next above", () -> Scenes.held(2, 'p', 11, tower()), x -> x.pinnedAbove(1),
                1);
        CHECK.onlyTells("promise 16, the top", () -> Scenes.held(3, 'p', 11, tower()), x -> x.pinnedAbove(0), 1);
        CHECK.onlyTells("promise 16, a hold of the kind l", () -> Scenes.held(3, 'l', 1000, tower()),
                x -> x.pinnedAbove(0), 0);
        CHECK.onlyTells("promise 16, l in place of p",
                () -> Scenes.held(3, 'l', 1000, Scenes.held(3, 'p', 1000, tower())), x -> x.pinnedAbove(0), 0);
        CHECK.onlyTells("promise 16, an hour before the pin ends",
                () -> Scenes.passed(1, Scenes.held(3, 'p', 12, tower())), x -> x.pinnedAbove(0), 1);
        CHECK.onlyTells("promise 16, the pin has ended",
                () -> Scenes.passed(2, Scenes.held(3, 'p', 12, tower())), x -> x.pinnedAbove(0), 0);
        CHECK.onlyTells("promise 16, a pinned box in another stack",
                () -> Scenes.held(2, 'p', 1000, Scenes.yard("4 4", "6@0 6@0 6@1 6@1")), x -> x.pinnedAbove(0), 0);
    }

    /** Promise 16, "Throws IndexOutOfBoundsException if there is no such box in the yard". */
    private static void pinnedAboveNoSuchBox() {
        BOUNDARY.boxesNotInTheYard("promise 16, pinnedAbove", (x, box) -> x.pinnedAbove(box));
    }
}
