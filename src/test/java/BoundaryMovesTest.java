import java.util.function.Supplier;

/** Promises 17 to 24, sentence by sentence: the boundary cases. */
public final class BoundaryMovesTest {
    private static final Check CHECK = new Check("BoundaryMovesTest");
    private static final Boundary BOUNDARY = new Boundary(CHECK);

    public static void main(String[] args) {
        whyNotAtTheTop();
        whyPinned();
        whyInThisStack();
        whyFull();
        whyLighter();
        whyFirstReason();
        whyNoSuchBoxOrStack();
        moveTellsTheNumberOfAllMoves();
        moveThatCannotBeMade();
        moveThatCanJustBeMade();
        moveNoSuchBoxOrStack();
        planOfNoMove();
        planOfAsManyMovesAsBoxesAbove();
        planOfOneMoveMore();
        planWithTheOnlyPlaceInAnyStack();
        planWithTheHighestBoxNumbers();
        noPlanOfTwoMovesMore();
        noPlanWithoutPlace();
        noPlanWithAPin();
        planWithAPinThatDoesNotMatter();
        planLengthNoSuchBox();
        planByTryingNoSuchBox();
        planBoxNoSuchMove();
        planBoxNoSuchBox();
        planStackNoSuchMove();
        planStackNoSuchBox();
        digFromNoMoveToFour();
        digTwice();
        digNoPlan();
        digNoSuchBox();
        movesFromNoneOn();
        movesOfPlansIncluded();
        movesWithoutRefusedOnes();
        CHECK.end();
    }

    /** Stack 0 (reach 2) is full with 0 (9), 1 (5); stack 1 (1) with 2 (4); stack 2 (3) has 3 (6); stack 3 is empty. */
    private static Quaylock tight() {
        return Scenes.yard("2 1 3 2", "9@0 5@0 4@1 6@2");
    }

    private static Supplier<Quaylock> pinned(int box) {
        return () -> Scenes.held(box, 'p', 1000, tight());
    }

    /** Promise 17, "'t' it is not at the top of its stack": one below the top is not. */
    private static void whyNotAtTheTop() {
        CHECK.onlyTells("promise 17, one box above", BoundaryMovesTest::tight, x -> x.why(0, 3), 't');
        for (int i = 0; i < 3; i++) {
            int box = i;
            CHECK.onlyTells("promise 17, below the top of 4", () -> Scenes.yard("4 4", "6@0 6@0 6@0 6@0"),
                    x -> x.why(box, 1), 't');
        }
        CHECK.onlyTells("promise 17, at the top of 4", () -> Scenes.yard("4 4", "6@0 6@0 6@0 6@0"), x -> x.why(3, 1),
                '-');
        CHECK.onlyTells("promise 17, alone in its stack", BoundaryMovesTest::tight, x -> x.why(3, 3), '-');
        Quaylock uncovered = tight();
        uncovered.move(1, 3);
        CHECK.same("promise 17, at the top since a move", uncovered.why(0, 2), 'w');
    }

    /** Promise 17, "'p' it is pinned": by a hold of the kind p alone, up to its hour. */
    private static void whyPinned() {
        CHECK.onlyTells("promise 17, pinned", pinned(1), x -> x.why(1, 3), 'p');
        CHECK.onlyTells("promise 17, held by the kind l", () -> Scenes.held(1, 'l', 1000, tight()), x -> x.why(1, 3),
                '-');
        CHECK.onlyTells("promise 17, an hour before the pin ends",
                () -> Scenes.passed(4, Scenes.held(1, 'p', 5, tight())), x -> x.why(1, 3), 'p');
        CHECK.onlyTells("promise 17, the pin has ended",
                () -> Scenes.passed(5, Scenes.held(1, 'p', 5, tight())), x -> x.why(1, 3), '-');
        CHECK.onlyTells("promise 17, the box to move onto is pinned", pinned(3), x -> x.why(1, 2), '-');
        CHECK.onlyTells("promise 17, the box below is pinned", pinned(0), x -> x.why(1, 2), '-');
    }

    /** Promise 17, "'s' it is in this stack". */
    private static void whyInThisStack() {
        CHECK.onlyTells("promise 17, the same stack", BoundaryMovesTest::tight, x -> x.why(3, 2), 's');
        CHECK.onlyTells("promise 17, the first stack", BoundaryMovesTest::tight, x -> x.why(1, 0), 's');
        Quaylock yard = tight();
        yard.move(3, 3);
        CHECK.same("promise 17, the stack that it came to", yard.why(3, 3), 's');
        CHECK.same("promise 17, the stack that it left", yard.why(3, 2), '-');
    }

    /** Promise 17, "'f' the stack is full": with as many boxes as its reach, not with one less. */
    private static void whyFull() {
        for (int reach = 1; reach <= 4; reach++) {
            String reaches = "1 " + reach;
            String boxes = "1@0" + " 5@1".repeat(reach);
            CHECK.onlyTells("promise 17, full at " + reach, () -> Scenes.yard(reaches, boxes), x -> x.why(0, 1), 'f');
            String oneLess = "1@0" + " 5@1".repeat(reach - 1);
            CHECK.onlyTells("promise 17, one place left of " + reach, () -> Scenes.yard(reaches, oneLess),
                    x -> x.why(0, 1), '-');
        }
    }

    /** Promise 17, "'w' the box at the top is lighter": by 1, not one of the same weight. */
    private static void whyLighter() {
        CHECK.onlyTells("promise 17, the same weight", () -> Scenes.yard("4 4", "5@0 5@1"), x -> x.why(0, 1), '-');
        CHECK.onlyTells("promise 17, lighter by 1", () -> Scenes.yard("4 4", "5@0 4@1"), x -> x.why(0, 1), 'w');
        CHECK.onlyTells("promise 17, heavier by 1", () -> Scenes.yard("4 4", "5@0 6@1"), x -> x.why(0, 1), '-');
        CHECK.onlyTells("promise 17, 30 to 1", () -> Scenes.yard("4 4", "30@0 1@1"), x -> x.why(0, 1), 'w');
        CHECK.onlyTells("promise 17, the heaviest to an empty stack", () -> Scenes.yard("4 4", "30@0"),
                x -> x.why(0, 1), '-');
        CHECK.onlyTells("promise 17, heavier below, lighter at the top", () -> Scenes.yard("4 4", "5@0 9@1 4@1"),
                x -> x.why(0, 1), 'w');
    }

    /** Promise 17, "the first reason": each pair of reasons that can come together, the earlier one is told. */
    private static void whyFirstReason() {
        CHECK.onlyTells("promise 17, t before p", pinned(0), x -> x.why(0, 3), 't');
        CHECK.onlyTells("promise 17, t before s", BoundaryMovesTest::tight, x -> x.why(0, 0), 't');
        CHECK.onlyTells("promise 17, t before f", BoundaryMovesTest::tight, x -> x.why(0, 1), 't');
        CHECK.onlyTells("promise 17, t before w", BoundaryMovesTest::tight, x -> x.why(0, 2), 't');
        CHECK.onlyTells("promise 17, p before s", pinned(3), x -> x.why(3, 2), 'p');
        CHECK.onlyTells("promise 17, p before f", pinned(3), x -> x.why(3, 1), 'p');
        CHECK.onlyTells("promise 17, p before w", () -> Scenes.held(0, 'p', 1000, Scenes.yard("4 4", "5@0 4@1")),
                x -> x.why(0, 1), 'p');
        CHECK.onlyTells("promise 17, s before f", BoundaryMovesTest::tight, x -> x.why(2, 1), 's');
        CHECK.onlyTells("promise 17, f before w", BoundaryMovesTest::tight, x -> x.why(3, 0), 'f');
    }

    /** Promise 17, "Throws IndexOutOfBoundsException if there is no such box in the yard, or no such stack". */
    private static void whyNoSuchBoxOrStack() {
        BOUNDARY.boxesNotInTheYard("promise 17, why", (x, box) -> x.why(box, 0));
        BOUNDARY.stacksThatAreNot("promise 17, why", (x, stack) -> x.why(0, stack));
        BOUNDARY.boxesNotInTheYard("promise 17, why with no such stack either", (x, box) -> x.why(box, 4));
        CHECK.refused("promise 17, a box below, no such stack", BoundaryMovesTest::tight, x -> x.why(0, 4),
                Boundary.NO_SUCH);
    }

    /** Promise 18, "Returns the number of all moves so far": 1 for the first. */
    private static void moveTellsTheNumberOfAllMoves() {
        Quaylock yard = Scenes.yard("1 1", "30@0");
        for (int number = 1; number <= 100; number++) {
            CHECK.same("promise 18, move " + number, yard.move(0, number % 2), number);
        }
        Quaylock dug = Scenes.yard("4 4", "6@0 6@0 6@0");
        dug.dig(0);
        CHECK.same("promise 18, a move after a plan of two", dug.move(0, 1), 3);
    }

    /** Promise 18, "Throws UnsupportedOperationException if it cannot be moved there": for each reason. */
    private static void moveThatCannotBeMade() {
        CHECK.refused("promise 18, not at the top", BoundaryMovesTest::tight, x -> x.move(0, 3), Boundary.CANNOT);
        CHECK.refused("promise 18, pinned", pinned(1), x -> x.move(1, 3), Boundary.CANNOT);
        CHECK.refused("promise 18, in this stack", BoundaryMovesTest::tight, x -> x.move(3, 2), Boundary.CANNOT);
        CHECK.refused("promise 18, in this stack, which is full", BoundaryMovesTest::tight, x -> x.move(2, 1),
                Boundary.CANNOT);
        CHECK.refused("promise 18, full", BoundaryMovesTest::tight, x -> x.move(1, 1), Boundary.CANNOT);
        CHECK.refused("promise 18, onto a box lighter by 1", () -> Scenes.yard("4 4", "5@0 4@1"), x -> x.move(0, 1),
                Boundary.CANNOT);
        for (int reach = 1; reach <= 4; reach++) {
            String reaches = "1 " + reach;
            String boxes = "1@0" + " 5@1".repeat(reach);
            CHECK.refused("promise 18, full at " + reach, () -> Scenes.yard(reaches, boxes), x -> x.move(0, 1),
                    Boundary.CANNOT);
        }
    }

    /** Promise 18: the last cases that are still allowed. */
    private static void moveThatCanJustBeMade() {
        CHECK.same("promise 18, onto the same weight", Scenes.yard("4 4", "5@0 5@1").move(0, 1), 1);
        CHECK.same("promise 18, to the last place", Scenes.yard("1 4", "5@0 5@1 5@1 5@1").move(0, 1), 1);
        CHECK.same("promise 18, held by the kind l", Scenes.held(1, 'l', 1000, tight()).move(1, 3), 1);
        CHECK.same("promise 18, the pin has ended", Scenes.passed(1, Scenes.held(1, 'p', 1, tight())).move(1, 3), 1);
        CHECK.same("promise 18, with 8 boxes in the yard", Scenes.eightBoxes().move(7, 3), 1);
        CHECK.same("promise 18, with a booked appointment", Scenes.oneBooked().move(2, 2), 1);
    }

    /** Promise 18, "Throws IndexOutOfBoundsException if there is no such box in the yard, or no such stack", first. */
    private static void moveNoSuchBoxOrStack() {
        BOUNDARY.boxesNotInTheYard("promise 18, move", (x, box) -> x.move(box, 0));
        BOUNDARY.stacksThatAreNot("promise 18, move", (x, stack) -> x.move(0, stack));
        BOUNDARY.boxesNotInTheYard("promise 18, move with no such stack either", (x, box) -> x.move(box, -1));
        CHECK.refused("promise 18, no such stack before a box below", BoundaryMovesTest::tight, x -> x.move(0, 4),
                Boundary.NO_SUCH);
        CHECK.refused("promise 18, no such stack before a pin", pinned(1), x -> x.move(1, -1), Boundary.NO_SUCH);
    }

    /** Looks at the whole plan: "2>1 3>0" takes box 2 to stack 1, then box 3 to stack 0. */
    private static void planned(String what, Supplier<Quaylock> scene, int box, String due) {
        String[] moves = due.isEmpty() ? new String[0] : due.split(" ");
        CHECK.onlyTells(what + ", promise 19", scene, x -> x.planLength(box), moves.length);
        CHECK.onlyTells(what + ", promise 20", scene, x -> x.planByTrying(box), moves.length);
        for (int i = 0; i < moves.length; i++) {
            int index = i;
            String[] move = moves[i].split(">");
            CHECK.onlyTells(what + ", promise 21, move " + i, scene, x -> x.planBox(box, index),
                    Integer.parseInt(move[0]));
            CHECK.onlyTells(what + ", promise 22, move " + i, scene, x -> x.planStack(box, index),
                    Integer.parseInt(move[1]));
        }
        CHECK.refused(what + ", promise 21, behind the last move", scene, x -> x.planBox(box, moves.length),
                Boundary.NONE);
        CHECK.refused(what + ", promise 22, behind the last move", scene, x -> x.planStack(box, moves.length),
                Boundary.NONE);
        CHECK.same(what + ", promise 23", scene.get().dig(box), moves.length);
        CHECK.alike(what + ", promise 23", () -> {
            Quaylock yard = scene.get();
            yard.dig(box);
            return yard;
        }, () -> {
            Quaylock yard = scene.get();
            for (String move : moves) {
                yard.move(Integer.parseInt(move.split(">")[0]), Integer.parseInt(move.split(">")[1]));
            }
            return yard;
        });
    }

    private static void noPlan(String what, Supplier<Quaylock> scene, int box) {
        CHECK.refused(what + ", promise 19", scene, x -> x.planLength(box), Boundary.NONE);
        CHECK.refused(what + ", promise 20", scene, x -> x.planByTrying(box), Boundary.NONE);
        CHECK.refused(what + ", promise 21", scene, x -> x.planBox(box, 0), Boundary.NONE);
        CHECK.refused(what + ", promise 22", scene, x -> x.planStack(box, 0), Boundary.NONE);
        CHECK.refused(what + ", promise 23", scene, x -> x.dig(box), Boundary.NONE);
    }

    /** Promises 19 to 23: no box above, no move. */
    private static void planOfNoMove() {
        planned("at the top", BoundaryMovesTest::tight, 1, "");
        planned("alone in its stack", BoundaryMovesTest::tight, 3, "");
        planned("the only box and the only stack", () -> Scenes.yard("1", "5@0"), 0, "");
        planned("at the top, all others full", () -> Scenes.yard("1 1", "5@0 5@1"), 0, "");
        planned("at the top and pinned", pinned(1), 1, "");
        planned("at the top in a yard of 8", Scenes::eightBoxes, 7, "");
    }

    /** Promises 19 to 23: 1, 2 and 3 boxes above; of several plans the one with the lower boxes, then stacks. */
    private static void planOfAsManyMovesAsBoxesAbove() {
        planned("one above", () -> Scenes.yard("4 1", "9@0 9@0"), 0, "1>1");
        planned("one above, the lowest stack", () -> Scenes.yard("4 1 1 1", "9@0 9@0"), 0, "1>1");
        planned("one above, the highest stack", () -> Scenes.yard("1 1 1 4", "9@3 9@3"), 0, "1>0");
        planned("one above, the last stack alone is left", () -> Scenes.yard("4 1 1 1", "9@0 9@0 1@1 1@2"), 0, "1>3");
        planned("two above", () -> Scenes.yard("4 2", "9@0 8@0 8@0"), 0, "2>1 1>1");
        planned("two above, the lower stacks", () -> Scenes.yard("4 4 4", "9@0 8@0 7@0"), 0, "2>1 1>2");
        planned("three above", () -> Scenes.yard("4 3", "9@0 8@0 8@0 8@0"), 0, "3>1 2>1 1>1");
        planned("three above, a stack for each", () -> Scenes.yard("4 1 1 1", "9@0 8@0 7@0 6@0"), 0, "3>1 2>2 1>3");
        planned("the last place of a stack", () -> Scenes.yard("4 4", "9@0 1@0 2@1 2@1 2@1"), 0, "1>1");
        planned("the box at level 1", () -> Scenes.yard("4 4", "9@0 8@0 8@0 8@0"), 1, "3>1 2>1");
        planned("8 boxes in the yard", Scenes::eightBoxes, 0, "2>1 1>2");
    }

    /** Promises 19 to 23, "at most one move more than there are boxes above it": 1, 2 and 3 boxes above. */
    private static void planOfOneMoveMore() {
        planned("one above, two moves", () -> Scenes.yard("4 4 4", "9@0 5@0 3@1 4@2"), 0, "2>2 1>1");
        planned("two above, three moves", () -> Scenes.yard("4 4 4", "9@0 5@0 5@0 3@1 4@2"), 0, "3>2 2>1 1>1");
        planned("three above, four moves", () -> Scenes.yard("4 4 4", "9@0 5@0 5@0 5@0 3@1 4@2"), 0,
                "4>2 3>1 2>1 1>1");
        planned("three above, one of them twice", () -> Scenes.yard("4 2 2", "9@0 8@0 7@0 6@0"), 0,
                "3>1 2>2 3>2 1>1");
        planned("fewer moves come before lower boxes", () -> Scenes.yard("4 4 4", "1@1 9@0 5@0"), 1, "2>2");
        planned("fewer moves come before lower stacks", () -> Scenes.yard("4 4 4", "1@0 9@2 5@2"), 1, "2>1");
    }

    /** Promises 19 to 23: wherever the box stands, the one place that is left is found, in any other stack. */
    private static void planWithTheOnlyPlaceInAnyStack() {
        for (int from = 0; from < 4; from++) {
            for (int to = 0; to < 4; to++) {
                if (from == to) {
                    continue;
                }
                StringBuilder boxes = new StringBuilder("9@" + from + " 9@" + from);
                for (int full = 0; full < 4; full++) {
                    boxes.append(full == from || full == to ? "" : " 9@" + full + " 1@" + full);
                }
                planned("from stack " + from + " to " + to, () -> Scenes.yard("2 2 2 2", boxes.toString()), 0,
                        "1>" + to);
            }
        }
    }

    /** Promises 19 to 23: the boxes 16 to 19, the last that can come, and the most moves that a plan can have. */
    private static void planWithTheHighestBoxNumbers() {
        Supplier<Quaylock> lastFour = () -> {
            Quaylock yard = Scenes.yard("4 2 2", "");
            for (int box = 0; box < 16; box++) {
                yard.addBox(1, 0);
                Scenes.passed(1, Scenes.booked(box, box + 1, 0, yard));
            }
            for (int weight = 9; weight >= 6; weight--) {
                yard.addBox(weight, 0);
            }
            return yard;
        };
        planned("three above, one of them twice", lastFour, 16, "19>1 18>2 19>2 17>1");
        planned("two above", lastFour, 17, "19>1 18>2");
        planned("one above", lastFour, 18, "19>1");
        planned("none above", lastFour, 19, "");
    }

    /** Promises 19 to 23, "at most one move more than there are boxes above it": two more do not count. */
    private static void noPlanOfTwoMovesMore() {
        noPlan("one above, three moves", () -> Scenes.yard("4 4 4", "9@0 5@0 3@1 3@1 4@2"), 0);
        noPlan("two above, four moves", () -> Scenes.yard("4 4 4", "9@0 5@0 5@0 3@1 3@1 4@2"), 0);
        noPlan("three above, five moves", () -> Scenes.yard("4 4 4", "9@0 5@0 5@0 5@0 3@1 3@1 4@2"), 0);
    }

    /** Promises 19 to 23, "Throws NoSuchElementException if there is no plan": nothing takes the boxes above. */
    private static void noPlanWithoutPlace() {
        noPlan("no other stack", () -> Scenes.yard("4", "9@0 9@0"), 0);
        noPlan("all others full", () -> Scenes.yard("4 1 1 1", "9@0 9@0 9@1 9@2 9@3"), 0);
        noPlan("the others lighter by 1", () -> Scenes.yard("2 1 4", "9@0 9@0 9@1 8@2"), 0);
        noPlan("a place for one of two", () -> Scenes.yard("4 1", "9@0 9@0 9@0"), 0);
        noPlan("a place for two of three", () -> Scenes.yard("4 2", "9@0 9@0 9@0 9@0"), 0);
    }

    /** Promises 19 to 23, "Throws NoSuchElementException if there is no plan": a pinned box is in the way. */
    private static void noPlanWithAPin() {
        noPlan("the box above pinned", pinned(1), 0);
        for (int i = 1; i < 4; i++) {
            int box = i;
            noPlan("pinned above: " + box, () -> Scenes.held(box, 'p', 1000, Scenes.yard("4 4", "6@0 6@0 6@0 6@0")),
                    0);
        }
        noPlan("a pinned box that should make room",
                () -> Scenes.held(2, 'p', 1000, Scenes.yard("4 4 4", "9@0 5@0 3@1 4@2")), 0);
        noPlan("an hour before the pin ends", () -> Scenes.passed(4, Scenes.held(1, 'p', 5, tight())), 0);
    }

    /** Promises 19 to 23, "the box itself is not moved", "not pinned by a hold of the kind 'p'". */
    private static void planWithAPinThatDoesNotMatter() {
        planned("the box itself pinned", pinned(0), 0, "1>2");
        planned("the box to move onto pinned", pinned(3), 0, "1>2");
        planned("a hold of the kind l above", () -> Scenes.held(1, 'l', 1000, tight()), 0, "1>2");
        planned("the pin has ended", () -> Scenes.passed(5, Scenes.held(1, 'p', 5, tight())), 0, "1>2");
        planned("pinned below the box", () -> Scenes.held(0, 'p', 1000, Scenes.yard("4 4", "6@0 6@0 6@0")), 1, "2>1");
    }

    /** Promise 19, "Throws IndexOutOfBoundsException if there is no such box in the yard", and first of the two. */
    private static void planLengthNoSuchBox() {
        BOUNDARY.boxesNotInTheYard("promise 19, planLength", (x, box) -> x.planLength(box));
    }

    /** Promise 20, "Throws IndexOutOfBoundsException if there is no such box in the yard", and first of the two. */
    private static void planByTryingNoSuchBox() {
        BOUNDARY.boxesNotInTheYard("promise 20, planByTrying", (x, box) -> x.planByTrying(box));
    }

    private static Quaylock fourMoves() {
        return Scenes.yard("4 4 4", "9@0 5@0 5@0 5@0 3@1 4@2");
    }

    /** Promise 21, "Throws NoSuchElementException if there is no plan, or no such move"; "counted from 0". */
    private static void planBoxNoSuchMove() {
        CHECK.onlyTells("promise 21, move 0 of 4", BoundaryMovesTest::fourMoves, x -> x.planBox(0, 0), 4);
        CHECK.onlyTells("promise 21, move 3 of 4", BoundaryMovesTest::fourMoves, x -> x.planBox(0, 3), 1);
        for (int index : new int[] {-1, 4, 5, 8, 31, 32, 64}) {
            CHECK.refused("promise 21, move " + index + " of 4", BoundaryMovesTest::fourMoves, x -> x.planBox(0, index),
                    Boundary.NONE);
        }
        for (int index : Boundary.FAR) {
            CHECK.refused("promise 21, move " + index + " of 4", BoundaryMovesTest::fourMoves, x -> x.planBox(0, index),
                    Boundary.NONE);
            CHECK.refused("promise 21, move " + index + " of 0", BoundaryMovesTest::tight, x -> x.planBox(3, index),
                    Boundary.NONE);
        }
        CHECK.refused("promise 21, move -1 of 0", BoundaryMovesTest::tight, x -> x.planBox(3, -1), Boundary.NONE);
        CHECK.refused("promise 21, move -1 of no plan", pinned(1), x -> x.planBox(0, -1), Boundary.NONE);
    }

    /** Promise 21, "Throws IndexOutOfBoundsException if there is no such box in the yard", and first of the two. */
    private static void planBoxNoSuchBox() {
        BOUNDARY.boxesNotInTheYard("promise 21, planBox", (x, box) -> x.planBox(box, 0));
        BOUNDARY.boxesNotInTheYard("promise 21, planBox and no such move", (x, box) -> x.planBox(box, -1));
    }

    /** Promise 22, "Throws NoSuchElementException if there is no plan, or no such move". */
    private static void planStackNoSuchMove() {
        CHECK.onlyTells("promise 22, move 0 of 4", BoundaryMovesTest::fourMoves, x -> x.planStack(0, 0), 2);
        CHECK.onlyTells("promise 22, move 3 of 4", BoundaryMovesTest::fourMoves, x -> x.planStack(0, 3), 1);
        for (int index : new int[] {-1, 4, 5, 8, 31, 32, 64}) {
            CHECK.refused("promise 22, move " + index + " of 4", BoundaryMovesTest::fourMoves,
                    x -> x.planStack(0, index), Boundary.NONE);
        }
        for (int index : Boundary.FAR) {
            CHECK.refused("promise 22, move " + index + " of 4", BoundaryMovesTest::fourMoves,
                    x -> x.planStack(0, index), Boundary.NONE);
            CHECK.refused("promise 22, move " + index + " of 0", BoundaryMovesTest::tight, x -> x.planStack(3, index),
                    Boundary.NONE);
        }
        CHECK.refused("promise 22, move -1 of 0", BoundaryMovesTest::tight, x -> x.planStack(3, -1), Boundary.NONE);
        CHECK.refused("promise 22, move -1 of no plan", pinned(1), x -> x.planStack(0, -1), Boundary.NONE);
    }

    /** Promise 22, "Throws IndexOutOfBoundsException if there is no such box in the yard", and first of the two. */
    private static void planStackNoSuchBox() {
        BOUNDARY.boxesNotInTheYard("promise 22, planStack", (x, box) -> x.planStack(box, 0));
        BOUNDARY.boxesNotInTheYard("promise 22, planStack and no such move", (x, box) -> x.planStack(box, -1));
    }

    /** Promise 23, "Returns the number of these moves": 0 the least, 4 the most. */
    private static void digFromNoMoveToFour() {
        CHECK.onlyTells("promise 23, no move", BoundaryMovesTest::tight, x -> x.dig(1), 0);
        Quaylock yard = fourMoves();
        CHECK.same("promise 23, four moves", yard.dig(0), 4);
        CHECK.same("promise 23, it is at the top", yard.above(0), 0);
        CHECK.same("promise 23, it was not moved", yard.stackOf(0), 0);
        CHECK.same("promise 23, all boxes stay", yard.boxes(), 6);
        CHECK.same("promise 23, the hour stays", yard.now(), 0);
    }

    /** Promise 23, "Makes all moves of the plan": the second time there is none left. */
    private static void digTwice() {
        Supplier<Quaylock> dug = () -> {
            Quaylock yard = fourMoves();
            yard.dig(0);
            return yard;
        };
        CHECK.onlyTells("promise 23, dug out before", dug, x -> x.dig(0), 0);
    }

    /** Promise 23, "Throws NoSuchElementException if there is no plan": not even the first of its moves is made. */
    private static void digNoPlan() {
        CHECK.refused("promise 23, the top could go, the next is pinned",
                () -> Scenes.held(1, 'p', 1000, Scenes.yard("4 4", "6@0 6@0 6@0")), x -> x.dig(0), Boundary.NONE);
        CHECK.refused("promise 23, the top could go, the next could not", () -> Scenes.yard("4 1", "6@0 6@0 6@0"),
                x -> x.dig(0), Boundary.NONE);
    }

    /** Promise 23, "Throws IndexOutOfBoundsException if there is no such box in the yard", and first of the two. */
    private static void digNoSuchBox() {
        BOUNDARY.boxesNotInTheYard("promise 23, dig", (x, box) -> x.dig(box));
    }

    /** Promise 24, "Returns the number of all moves so far": 0 at first, and coming and leaving are no moves. */
    private static void movesFromNoneOn() {
        CHECK.onlyTells("promise 24, a new yard", Quaylock::new, x -> x.moves(), 0);
        CHECK.onlyTells("promise 24, boxes that came", Scenes::eightBoxes, x -> x.moves(), 0);
        CHECK.onlyTells("promise 24, boxes that came and left", Scenes::twentyHaveLeft, x -> x.moves(), 0);
        Quaylock yard = tight();
        yard.move(1, 3);
        CHECK.same("promise 24, one move", yard.moves(), 1);
        yard.move(1, 0);
        CHECK.same("promise 24, a move back counts too", yard.moves(), 2);
    }

    /** Promise 24, "those of plans included": of dig, and of an hour that comes. */
    private static void movesOfPlansIncluded() {
        Quaylock dug = fourMoves();
        dug.dig(0);
        CHECK.same("promise 24, a plan of four", dug.moves(), 4);
        Quaylock left = Scenes.passed(1, Scenes.booked(0, 1, 0, fourMoves()));
        CHECK.same("promise 24, a plan of four for a box that leaves", left.moves(), 4);
        Quaylock missed = Scenes.missed();
        CHECK.same("promise 24, a missed appointment", missed.moves(), 0);
    }

    /** Promise 24, "A method that throws an exception changes nothing": a refused move does not count. */
    private static void movesWithoutRefusedOnes() {
        Quaylock yard = Scenes.held(1, 'p', 1000, tight());
        int refused = 0;
        int[][] moves = {{0, 3}, {1, 3}, {3, 2}, {3, 1}, {3, 0}, {9, 0}, {0, 9}};
        for (int[] move : moves) {
            try {
                yard.move(move[0], move[1]);
            } catch (RuntimeException e) {
                refused++;
            }
        }
        CHECK.same("promise 24, refused moves", refused, moves.length);
        CHECK.same("promise 24, moves after refused ones", yard.moves(), 0);
        CHECK.same("promise 24, the next move", yard.move(3, 3), 1);
    }
}
