/** Promises 1 to 11, sentence by sentence: the boundary cases. */
public final class BoundaryStacksTest {
    private static final Check CHECK = new Check("BoundaryStacksTest");
    private static final Boundary BOUNDARY = new Boundary(CHECK);

    public static void main(String[] args) {
        newYardIsEmpty();
        newYardAnswersNoQuestion();
        newYardStartsNumbersAt0();
        newYardIsApartFromOthers();
        addStackReachFrom1To4();
        addStackFourAreFull();
        addStackOrder();
        addBoxNoSuchStack();
        addBoxWeightFrom1To30();
        addBoxOntoAFullStack();
        addBoxOntoALighterBox();
        addBoxEightInTheYard();
        addBoxTwentyHaveCome();
        addBoxOrder();
        addBoxRefusedTakesNoNumber();
        boxesFromNoneToEight();
        isInYardOfAnyNumber();
        weightLeastAndGreatest();
        weightNoSuchBox();
        stackOfFirstAndLast();
        stackOfNoSuchBox();
        levelLowestAndHighest();
        levelNoSuchBox();
        aboveNoneAndMost();
        aboveNoSuchBox();
        heightEmptyAndFull();
        heightNoSuchStack();
        boxAtLowestAndHighestLevel();
        boxAtNone();
        boxAtNoSuchStack();
        CHECK.end();
    }

    /** Promise 1, "Creates a yard without stacks and boxes, at the hour 0": what is counted is 0. */
    private static void newYardIsEmpty() {
        CHECK.onlyTells("promise 1, boxes", Quaylock::new, x -> x.boxes(), 0);
        CHECK.onlyTells("promise 1, now", Quaylock::new, x -> x.now(), 0);
        CHECK.onlyTells("promise 1, moves", Quaylock::new, x -> x.moves(), 0);
        CHECK.onlyTells("promise 1, weightLeft", Quaylock::new, x -> x.weightLeft(), 0L);
        CHECK.onlyTells("promise 1, isInYard", Quaylock::new, x -> x.isInYard(0), false);
        for (int lane = 0; lane < 3; lane++) {
            int asked = lane;
            CHECK.onlyTells("promise 1, inLane " + lane, Quaylock::new, x -> x.inLane(asked, 999), -1);
        }
    }

    /** Promise 1, "without stacks and boxes": each method that needs one is refused. */
    private static void newYardAnswersNoQuestion() {
        CHECK.refused("promise 1, addBox", Quaylock::new, x -> x.addBox(1, 0), Boundary.NO_SUCH);
        CHECK.refused("promise 1, height", Quaylock::new, x -> x.height(0), Boundary.NO_SUCH);
        CHECK.refused("promise 1, boxAt", Quaylock::new, x -> x.boxAt(0, 0), Boundary.NO_SUCH);
        CHECK.refused("promise 1, weight", Quaylock::new, x -> x.weight(0), Boundary.NO_SUCH);
        CHECK.refused("promise 1, why", Quaylock::new, x -> x.why(0, 0), Boundary.NO_SUCH);
        CHECK.refused("promise 1, planLength", Quaylock::new, x -> x.planLength(0), Boundary.NO_SUCH);
        CHECK.refused("promise 1, book", Quaylock::new, x -> x.book(0, 1, 0), Boundary.NO_SUCH);
        CHECK.refused("promise 1, stateOf", Quaylock::new, x -> x.stateOf(0), Boundary.NO_SUCH);
        CHECK.refused("promise 1, doneShare", Quaylock::new, x -> x.doneShare(), Boundary.NONE);
    }

    /** Promise 1: the first stack, the first box and the first appointment have the number 0. */
    private static void newYardStartsNumbersAt0() {
        Quaylock yard = new Quaylock();
        CHECK.same("promise 1, the first stack", yard.addStack(1), 0);
        CHECK.same("promise 1, the first box", yard.addBox(1, 0), 0);
        CHECK.same("promise 1, the first appointment", yard.book(0, 1, 0), 0);
    }

    /** Promise 1: what another object has does not show in a new one. */
    private static void newYardIsApartFromOthers() {
        CHECK.alike("promise 1, made after a full one", () -> {
            Scenes.eightBoxes();
            Scenes.thirtyBooked();
            Scenes.twentyHaveLeft();
            return new Quaylock();
        }, Quaylock::new);
    }

    /** Promise 2, "Throws IllegalArgumentException if the reach is not between 1 and 4". */
    private static void addStackReachFrom1To4() {
        CHECK.same("promise 2, reach 1, the least", new Quaylock().addStack(1), 0);
        CHECK.same("promise 2, reach 4, the greatest", new Quaylock().addStack(4), 0);
        for (int reach : new int[] {0, -1, 5, 6}) {
            CHECK.refused("promise 2, reach " + reach, Quaylock::new, x -> x.addStack(reach), Boundary.WRONG);
        }
        for (int reach : Boundary.FAR) {
            CHECK.refused("promise 2, reach " + reach, Quaylock::new, x -> x.addStack(reach), Boundary.WRONG);
        }
        Quaylock yard = new Quaylock();
        for (int reach = 1; reach <= 4; reach++) {
            int asked = reach;
            CHECK.same("promise 2, number of the stack of reach " + reach, yard.addStack(reach), reach - 1);
            CHECK.refused("promise 2, a box more than the reach " + reach, () -> filled(asked),
                    x -> x.addBox(1, 0), Boundary.CANNOT);
            CHECK.same("promise 2, as many boxes as the reach " + reach, filled(reach).height(0), reach);
        }
    }

    private static Quaylock filled(int reach) {
        Quaylock yard = new Quaylock();
        yard.addStack(reach);
        for (int i = 0; i < reach; i++) {
            yard.addBox(1, 0);
        }
        return yard;
    }

    /** Promise 2, "Throws IllegalStateException if there are 4 stacks". */
    private static void addStackFourAreFull() {
        CHECK.same("promise 2, the fourth stack", Scenes.yard("4 4 4", "").addStack(4), 3);
        for (int reach : new int[] {1, 4}) {
            CHECK.refused("promise 2, a fifth stack of reach " + reach, Scenes::fourStacks, x -> x.addStack(reach),
                    Boundary.STATE);
            CHECK.refused("promise 2, a fifth stack over boxes", Scenes::eightBoxes, x -> x.addStack(reach),
                    Boundary.STATE);
        }
    }

    /** Promise 2, "If several exceptions apply, the one that is listed first is thrown". */
    private static void addStackOrder() {
        for (int reach : new int[] {0, 5, Integer.MIN_VALUE, Integer.MAX_VALUE}) {
            CHECK.refused("promise 2, a fifth stack of the wrong reach " + reach, Scenes::fourStacks,
                    x -> x.addStack(reach), Boundary.WRONG);
        }
    }

    /** Promise 3, "Throws IndexOutOfBoundsException if there is no such stack". */
    private static void addBoxNoSuchStack() {
        BOUNDARY.stacksThatAreNot("promise 3, addBox", (x, stack) -> x.addBox(1, stack));
        CHECK.same("promise 3, the last stack", Scenes.fourStacks().addBox(1, 3), 0);
        CHECK.same("promise 3, the first stack", Scenes.fourStacks().addBox(1, 0), 0);
    }

    /** Promise 3, "Throws IllegalArgumentException if the weight is not between 1 and 30". */
    private static void addBoxWeightFrom1To30() {
        CHECK.same("promise 3, weight 1, the least", Scenes.yard("1", "1@0").weight(0), 1);
        CHECK.same("promise 3, weight 30, the greatest", Scenes.yard("1", "30@0").weight(0), 30);
        for (int weight : new int[] {0, -1, 31, 32}) {
            CHECK.refused("promise 3, weight " + weight, Scenes::fourStacks, x -> x.addBox(weight, 0), Boundary.WRONG);
        }
        for (int weight : Boundary.FAR) {
            CHECK.refused("promise 3, weight " + weight, Scenes::fourStacks, x -> x.addBox(weight, 0), Boundary.WRONG);
        }
    }

    /** Promise 3, "Throws UnsupportedOperationException if it cannot be put onto the stack": it is full. */
    private static void addBoxOntoAFullStack() {
        for (int reach = 1; reach <= 4; reach++) {
            int full = reach;
            CHECK.refused("promise 3, onto a full stack of reach " + reach, () -> filled(full), x -> x.addBox(1, 0),
                    Boundary.CANNOT);
        }
        Quaylock yard = filled(4);
        Scenes.passed(1, Scenes.booked(3, 1, 0, yard));
        CHECK.same("promise 3, onto a stack that was full until a box left", yard.addBox(1, 0), 4);
        yard.addStack(1);
        yard.move(4, 1);
        CHECK.same("promise 3, onto a stack that was full until a box was moved", yard.addBox(1, 0), 5);
    }

    /** Promise 3, "Throws UnsupportedOperationException if it cannot be put onto the stack": the top is lighter. */
    private static void addBoxOntoALighterBox() {
        CHECK.same("promise 3, onto a box of the same weight", Scenes.yard("4", "9@0 5@0").addBox(5, 0), 2);
        CHECK.refused("promise 3, onto a box lighter by 1", () -> Scenes.yard("4", "9@0 5@0"), x -> x.addBox(6, 0),
                Boundary.CANNOT);
        CHECK.same("promise 3, 30 onto 30", Scenes.yard("4", "30@0").addBox(30, 0), 1);
        CHECK.same("promise 3, 1 onto 1", Scenes.yard("4", "1@0").addBox(1, 0), 1);
        CHECK.refused("promise 3, 2 onto 1", () -> Scenes.yard("4", "1@0"), x -> x.addBox(2, 0), Boundary.CANNOT);
        CHECK.refused("promise 3, 30 onto 29", () -> Scenes.yard("4", "29@0"), x -> x.addBox(30, 0), Boundary.CANNOT);
        CHECK.same("promise 3, the heaviest onto an empty stack", Scenes.yard("4 1", "1@0").addBox(30, 1), 1);
        CHECK.same("promise 3, onto a stack that has become empty", Scenes.allHaveLeft().addBox(30, 0), 4);
        Quaylock topGone = Scenes.yard("4 4", "9@0 5@0");
        topGone.move(1, 1);
        CHECK.same("promise 3, when the lighter top has gone", topGone.addBox(9, 0), 2);
    }

    /** Promise 3, "Throws IllegalStateException if 8 boxes are in the yard". */
    private static void addBoxEightInTheYard() {
        CHECK.same("promise 3, the eighth box", Scenes.eightBoxes().weight(7), 7);
        for (int stack = 0; stack < 4; stack++) {
            int onto = stack;
            CHECK.refused("promise 3, a ninth box onto stack " + stack, Scenes::eightBoxes, x -> x.addBox(1, onto),
                    Boundary.STATE);
        }
        Quaylock yard = Scenes.passed(1, Scenes.booked(7, 1, 0, Scenes.eightBoxes()));
        CHECK.same("promise 3, a ninth box when one has left", yard.addBox(7, 2), 8);
        CHECK.refused("promise 3, a tenth box", () -> {
            Quaylock full = Scenes.passed(1, Scenes.booked(7, 1, 0, Scenes.eightBoxes()));
            full.addBox(7, 2);
            return full;
        }, x -> x.addBox(7, 3), Boundary.STATE);
    }

    /** Promise 3, "Throws IllegalStateException if [..] 20 have come". */
    private static void addBoxTwentyHaveCome() {
        CHECK.same("promise 3, the twentieth box", Scenes.twentyHaveCome().isInYard(19), true);
        for (int stack = 0; stack < 4; stack++) {
            int onto = stack;
            CHECK.refused("promise 3, a twenty-first box", Scenes::twentyHaveCome, x -> x.addBox(1, onto),
                    Boundary.STATE);
            CHECK.refused("promise 3, a twenty-first box into the empty yard", Scenes::twentyHaveLeft,
                    x -> x.addBox(30, onto), Boundary.STATE);
        }
    }

    /** Promise 3, "If several exceptions apply, the one that is listed first is thrown". */
    private static void addBoxOrder() {
        CHECK.refused("promise 3, no stack before weight", Scenes::eightBoxes, x -> x.addBox(0, 4), Boundary.NO_SUCH);
        CHECK.refused("promise 3, no stack before weight", Scenes::eightBoxes, x -> x.addBox(31, -1),
                Boundary.NO_SUCH);
        CHECK.refused("promise 3, no stack before 8 boxes", Scenes::eightBoxes, x -> x.addBox(1, 4), Boundary.NO_SUCH);
        CHECK.refused("promise 3, no stack before 20 boxes", Scenes::twentyHaveLeft, x -> x.addBox(1, -1),
                Boundary.NO_SUCH);
        CHECK.refused("promise 3, weight before a full stack", () -> filled(1), x -> x.addBox(0, 0), Boundary.WRONG);
        CHECK.refused("promise 3, weight before a lighter box", () -> Scenes.yard("4", "29@0"), x -> x.addBox(31, 0),
                Boundary.WRONG);
        CHECK.refused("promise 3, weight before 8 boxes", Scenes::eightBoxes, x -> x.addBox(31, 3), Boundary.WRONG);
        CHECK.refused("promise 3, weight before 20 boxes", Scenes::twentyHaveCome, x -> x.addBox(0, 0),
                Boundary.WRONG);
        CHECK.refused("promise 3, a full stack before 8 boxes",
                () -> Scenes.yard("4 4", "7@0 7@0 7@0 7@0 7@1 7@1 7@1 7@1"), x -> x.addBox(1, 0), Boundary.CANNOT);
        CHECK.refused("promise 3, a lighter box before 8 boxes", Scenes::eightBoxes, x -> x.addBox(8, 0),
                Boundary.CANNOT);
        CHECK.refused("promise 3, a lighter box before 20 boxes", Scenes::twentyHaveCome, x -> x.addBox(3, 3),
                Boundary.CANNOT);
    }

    /** Promise 3, "A method that throws an exception changes nothing": the next box has the next number. */
    private static void addBoxRefusedTakesNoNumber() {
        Quaylock yard = Scenes.yard("2", "5@0");
        int[][] refused = {{0, 0}, {31, 0}, {5, 1}, {6, 0}};
        for (int[] box : refused) {
            try {
                yard.addBox(box[0], box[1]);
            } catch (RuntimeException e) {
                continue;
            }
            CHECK.same("promise 3, addBox " + box[0] + " " + box[1], "no exception", "an exception");
        }
        CHECK.same("promise 3, the box after refused ones", yard.addBox(5, 0), 1);
    }

    /** Promise 4, "the number of boxes in the yard": none, all, and none again. */
    private static void boxesFromNoneToEight() {
        CHECK.onlyTells("promise 4, no stack", Quaylock::new, x -> x.boxes(), 0);
        CHECK.onlyTells("promise 4, no box", Scenes::fourStacks, x -> x.boxes(), 0);
        CHECK.onlyTells("promise 4, one box", () -> Scenes.yard("1", "5@0"), x -> x.boxes(), 1);
        CHECK.onlyTells("promise 4, as many as may be", Scenes::eightBoxes, x -> x.boxes(), 8);
        CHECK.onlyTells("promise 4, one has left", Scenes::oneHasLeft, x -> x.boxes(), 3);
        CHECK.onlyTells("promise 4, the last of 20", Scenes::twentyHaveCome, x -> x.boxes(), 1);
        CHECK.onlyTells("promise 4, all 20 have left", Scenes::twentyHaveLeft, x -> x.boxes(), 0);
        Quaylock moved = Scenes.four();
        moved.move(2, 2);
        CHECK.same("promise 4, a moved box stays in the yard", moved.boxes(), 4);
    }

    /** Promise 5, "Tells whether a box is in the yard": any number has an answer, none is refused. */
    private static void isInYardOfAnyNumber() {
        for (int box : new int[] {0, 1, 2}) {
            CHECK.onlyTells("promise 5, box " + box, Scenes::oneHasLeft, x -> x.isInYard(box), true);
        }
        for (int box : new int[] {-1, 3, 4, 19, 20, 21}) {
            CHECK.onlyTells("promise 5, box " + box, Scenes::oneHasLeft, x -> x.isInYard(box), false);
        }
        for (int box : Boundary.FAR) {
            CHECK.onlyTells("promise 5, box " + box, Scenes::oneHasLeft, x -> x.isInYard(box), false);
        }
        CHECK.onlyTells("promise 5, the last of 8", Scenes::eightBoxes, x -> x.isInYard(7), true);
        CHECK.onlyTells("promise 5, behind the last of 8", Scenes::eightBoxes, x -> x.isInYard(8), false);
        CHECK.onlyTells("promise 5, the last of 20", Scenes::twentyHaveCome, x -> x.isInYard(19), true);
        CHECK.onlyTells("promise 5, behind the last of 20", Scenes::twentyHaveCome, x -> x.isInYard(20), false);
        CHECK.onlyTells("promise 5, the last of 20, which has left", Scenes::twentyHaveLeft, x -> x.isInYard(19),
                false);
    }

    /** Promise 6, "Returns the weight of a box". */
    private static void weightLeastAndGreatest() {
        CHECK.onlyTells("promise 6, 30", () -> Scenes.yard("4", "30@0 1@0"), x -> x.weight(0), 30);
        CHECK.onlyTells("promise 6, 1", () -> Scenes.yard("4", "30@0 1@0"), x -> x.weight(1), 1);
        CHECK.onlyTells("promise 6, the last of 8", Scenes::eightBoxes, x -> x.weight(7), 7);
        CHECK.onlyTells("promise 6, the last of 20", Scenes::twentyHaveCome, x -> x.weight(19), 2);
    }

    /** Promise 6, "Throws IndexOutOfBoundsException if there is no such box in the yard". */
    private static void weightNoSuchBox() {
        BOUNDARY.boxesNotInTheYard("promise 6, weight", (x, box) -> x.weight(box));
    }

    /** Promise 7, "Returns the stack of a box". */
    private static void stackOfFirstAndLast() {
        CHECK.onlyTells("promise 7, the first stack", () -> Scenes.yard("4 4 4 4", "5@0 5@3"), x -> x.stackOf(0), 0);
        CHECK.onlyTells("promise 7, the last stack", () -> Scenes.yard("4 4 4 4", "5@0 5@3"), x -> x.stackOf(1), 3);
        CHECK.onlyTells("promise 7, the last of 20", Scenes::twentyHaveCome, x -> x.stackOf(19), 3);
        Quaylock yard = Scenes.yard("1 1 1 1", "5@0");
        yard.move(0, 3);
        CHECK.same("promise 7, after a move to the last", yard.stackOf(0), 3);
        yard.move(0, 0);
        CHECK.same("promise 7, after a move back", yard.stackOf(0), 0);
    }

    /** Promise 7, "Throws IndexOutOfBoundsException if there is no such box in the yard". */
    private static void stackOfNoSuchBox() {
        BOUNDARY.boxesNotInTheYard("promise 7, stackOf", (x, box) -> x.stackOf(box));
    }

    /** Promise 8, "The level of a box is the number of boxes below it": 0 at the bottom, 3 the highest. */
    private static void levelLowestAndHighest() {
        for (int box = 0; box < 4; box++) {
            int asked = box;
            CHECK.onlyTells("promise 8, level " + box, () -> filled(4), x -> x.level(asked), asked);
        }
        Quaylock yard = Scenes.yard("4 4", "9@0 7@0 5@1");
        yard.move(2, 0);
        CHECK.same("promise 8, on top after a move", yard.level(2), 2);
        yard.move(2, 1);
        CHECK.same("promise 8, at the bottom after a move", yard.level(2), 0);
    }

    /** Promise 8, "Throws IndexOutOfBoundsException if there is no such box in the yard". */
    private static void levelNoSuchBox() {
        BOUNDARY.boxesNotInTheYard("promise 8, level", (x, box) -> x.level(box));
    }

    /** Promise 9, "Returns how many boxes stand above a box": 0 at the top, 3 the most. */
    private static void aboveNoneAndMost() {
        for (int box = 0; box < 4; box++) {
            int asked = box;
            CHECK.onlyTells("promise 9, above " + box, () -> filled(4), x -> x.above(asked), 3 - asked);
        }
        Quaylock yard = Scenes.passed(1, Scenes.booked(3, 1, 0, filled(4)));
        CHECK.same("promise 9, when the top has left", yard.above(0), 2);
        CHECK.same("promise 9, of the new top", yard.above(2), 0);
    }

    /** Promise 9, "Throws IndexOutOfBoundsException if there is no such box in the yard". */
    private static void aboveNoSuchBox() {
        BOUNDARY.boxesNotInTheYard("promise 9, above", (x, box) -> x.above(box));
    }

    /** Promise 10, "Returns the number of boxes in a stack": from empty to full. */
    private static void heightEmptyAndFull() {
        CHECK.onlyTells("promise 10, an empty stack", Scenes::fourStacks, x -> x.height(0), 0);
        CHECK.onlyTells("promise 10, the last stack, empty", Scenes::fourStacks, x -> x.height(3), 0);
        for (int reach = 1; reach <= 4; reach++) {
            int full = reach;
            CHECK.onlyTells("promise 10, full at " + reach, () -> filled(full), x -> x.height(0), reach);
        }
        CHECK.onlyTells("promise 10, empty again", Scenes::allHaveLeft, x -> x.height(0), 0);
        Quaylock yard = Scenes.yard("1 1", "5@0");
        yard.move(0, 1);
        CHECK.same("promise 10, empty after a move", yard.height(0), 0);
        CHECK.same("promise 10, full after a move", yard.height(1), 1);
    }

    /** Promise 10, "Throws IndexOutOfBoundsException if there is no such stack". */
    private static void heightNoSuchStack() {
        BOUNDARY.stacksThatAreNot("promise 10, height", (x, stack) -> x.height(stack));
    }

    /** Promise 11, "Returns the box at a level of a stack": the lowest level and the highest. */
    private static void boxAtLowestAndHighestLevel() {
        CHECK.onlyTells("promise 11, level 0", () -> filled(4), x -> x.boxAt(0, 0), 0);
        CHECK.onlyTells("promise 11, level 3", () -> filled(4), x -> x.boxAt(0, 3), 3);
        CHECK.onlyTells("promise 11, the only box", () -> filled(1), x -> x.boxAt(0, 0), 0);
        CHECK.onlyTells("promise 11, the last stack", Scenes::twentyHaveCome, x -> x.boxAt(3, 0), 19);
    }

    /** Promise 11, "Throws NoSuchElementException if there is none". */
    private static void boxAtNone() {
        for (int height = 1; height <= 4; height++) {
            int full = height;
            for (int level : new int[] {-1, height, height + 1, 4}) {
                CHECK.refused("promise 11, level " + level + " of " + height, () -> filled(full),
                        x -> x.boxAt(0, level), Boundary.NONE);
            }
        }
        for (int level : new int[] {-1, 0, 1, 3, 4}) {
            CHECK.refused("promise 11, an empty stack", Scenes::fourStacks, x -> x.boxAt(0, level), Boundary.NONE);
            CHECK.refused("promise 11, an empty stack between others", () -> Scenes.yard("4 4 4", "5@0 5@2"),
                    x -> x.boxAt(1, level), Boundary.NONE);
            CHECK.refused("promise 11, a stack that has become empty", Scenes::allHaveLeft, x -> x.boxAt(0, level),
                    Boundary.NONE);
        }
        for (int level : Boundary.FAR) {
            CHECK.refused("promise 11, level " + level, () -> filled(4), x -> x.boxAt(0, level), Boundary.NONE);
        }
        // Levels counted on from one stack to the next would answer here.
        CHECK.refused("promise 11, level 4 below a stack with boxes", () -> Scenes.yard("4 4", "5@0 5@1"),
                x -> x.boxAt(0, 4), Boundary.NONE);
        CHECK.refused("promise 11, level -4 behind a stack with boxes", () -> Scenes.yard("4 4", "5@0 5@1"),
                x -> x.boxAt(1, -4), Boundary.NONE);
        CHECK.refused("promise 11, where the box that left has been", Scenes::oneHasLeft, x -> x.boxAt(1, 0),
                Boundary.NONE);
    }

    /** Promise 11, "Throws IndexOutOfBoundsException if there is no such stack", and first of the two. */
    private static void boxAtNoSuchStack() {
        BOUNDARY.stacksThatAreNot("promise 11, boxAt", (x, stack) -> x.boxAt(stack, 0));
        BOUNDARY.stacksThatAreNot("promise 11, boxAt at no level", (x, stack) -> x.boxAt(stack, -1));
        BOUNDARY.stacksThatAreNot("promise 11, boxAt far above", (x, stack) -> x.boxAt(stack, Integer.MAX_VALUE));
    }
}
