import java.util.NoSuchElementException;
import java.util.function.Supplier;

/** Promises 17 to 24. */
public final class MovesTest {
    private static final int[] NO_BOXES = {-1, 9, 19, 20, Integer.MIN_VALUE, Integer.MAX_VALUE};

    private static final Check CHECK = new Check("MovesTest");

    public static void main(String[] args) {
        why();
        whyInOrder();
        whyRefuses();
        move();
        moveRefuses();
        plans();
        plansInAFullYard();
        plansThatPinsForbid();
        plansThatWeightsForbid();
        planRefuses();
        dig();
        moves();
        CHECK.end();
    }

    /** Makes the stacks with these reaches and puts boxes with these weights onto them, bottom first. */
    private static Quaylock yard(int[] reaches, int[][] boxes) {
        Quaylock yard = new Quaylock();
        for (int reach : reaches) {
            yard.addStack(reach);
        }
        for (int[] box : boxes) {
            yard.addBox(box[0], box[1]);
        }
        return yard;
    }

    /** Box 0 (9) under box 1 (5) in stack 0; box 2 (4) fills stack 1; box 3 (6) in stack 2; stack 3 is empty. */
    private static Quaylock four() {
        return yard(new int[] {3, 1, 3, 2}, new int[][] {{9, 0}, {5, 0}, {4, 1}, {6, 2}});
    }

    private static Quaylock held(Quaylock yard, int box, char kind) {
        yard.hold(box, kind, 100);
        return yard;
    }

    private static Quaylock oneHasLeft() {
        Quaylock yard = four();
        yard.book(3, 1, 0);
        yard.pass(1);
        return yard;
    }

    private static void why() {
        CHECK.onlyTells("why under another", MovesTest::four, x -> x.why(0, 3), 't');
        CHECK.onlyTells("why pinned", () -> held(four(), 1, 'p'), x -> x.why(1, 3), 'p');
        CHECK.onlyTells("why with a hold that pins not", () -> held(four(), 1, 'l'), x -> x.why(1, 3), '-');
        CHECK.onlyTells("why to the same stack", MovesTest::four, x -> x.why(1, 0), 's');
        CHECK.onlyTells("why to a full stack", MovesTest::four, x -> x.why(1, 1), 'f');
        CHECK.onlyTells("why onto a lighter box", MovesTest::four, x -> x.why(3, 0), 'w');
        CHECK.onlyTells("why onto a heavier box", MovesTest::four, x -> x.why(1, 2), '-');
        CHECK.onlyTells("why to an empty stack", MovesTest::four, x -> x.why(1, 3), '-');
        CHECK.onlyTells("why onto a box of the same weight", () -> yard(new int[] {2, 2}, new int[][] {{5, 0}, {5, 1}}),
                x -> x.why(0, 1), '-');
        CHECK.onlyTells("why onto a pinned box", () -> held(four(), 3, 'p'), x -> x.why(1, 2), '-');
    }

    private static void whyInOrder() {
        Supplier<Quaylock> pinnedBelow = () -> held(four(), 0, 'p');
        CHECK.onlyTells("why below and pinned", pinnedBelow, x -> x.why(0, 3), 't');
        CHECK.onlyTells("why below, to the same", pinnedBelow, x -> x.why(0, 0), 't');
        CHECK.onlyTells("why below, to a full one", pinnedBelow, x -> x.why(0, 1), 't');
        Supplier<Quaylock> pinned = () -> held(four(), 1, 'p');
        CHECK.onlyTells("why pinned, to the same", pinned, x -> x.why(1, 0), 'p');
        CHECK.onlyTells("why pinned, to a full one", pinned, x -> x.why(1, 1), 'p');
        CHECK.onlyTells("why pinned, onto a lighter box", () -> held(four(), 3, 'p'), x -> x.why(3, 0), 'p');
        CHECK.onlyTells("why to the same, which is full", MovesTest::four, x -> x.why(2, 1), 's');
        CHECK.onlyTells("why to a full one with a lighter top", MovesTest::four, x -> x.why(3, 1), 'f');
    }

    private static void whyRefuses() {
        for (int box : NO_BOXES) {
            CHECK.refused("why " + box, MovesTest::four, x -> x.why(box, 0), IndexOutOfBoundsException.class);
            CHECK.refused("move " + box, MovesTest::four, x -> x.move(box, 0), IndexOutOfBoundsException.class);
        }
        CHECK.refused("why of one that has left", MovesTest::oneHasLeft, x -> x.why(3, 0),
                IndexOutOfBoundsException.class);
        CHECK.refused("move of one that has left", MovesTest::oneHasLeft, x -> x.move(3, 3),
                IndexOutOfBoundsException.class);
        Supplier<Quaylock> twoStacks = () -> yard(new int[] {2, 2}, new int[][] {{5, 0}, {5, 0}});
        for (int stack : new int[] {-1, 2, 3, 4, Integer.MIN_VALUE, Integer.MAX_VALUE}) {
            for (int i = 0; i < 2; i++) {
                int box = i;
                CHECK.refused("why to stack " + stack, twoStacks, x -> x.why(box, stack),
                        IndexOutOfBoundsException.class);
                CHECK.refused("move to stack " + stack, twoStacks, x -> x.move(box, stack),
                        IndexOutOfBoundsException.class);
            }
        }
    }

    private static void move() {
        Quaylock yard = four();
        CHECK.same("a move", yard.move(1, 3), 1);
        CHECK.same("its stack", yard.stackOf(1), 3);
        CHECK.same("the height it left", yard.height(0), 1);
        CHECK.same("the height it came to", yard.height(3), 1);
        CHECK.same("a move onto another", yard.move(1, 2), 2);
        CHECK.same("its level", yard.level(1), 1);
        CHECK.same("boxes", yard.boxes(), 4);
        CHECK.same("a move back", yard.move(1, 0), 3);
        CHECK.same("moves", yard.moves(), 3);
        CHECK.same("a move of a box with a hold that pins not", held(four(), 1, 'l').move(1, 3), 1);
        CHECK.same("now", yard.now(), 0);
    }

    private static void moveRefuses() {
        CHECK.refused("move from below", MovesTest::four, x -> x.move(0, 3), UnsupportedOperationException.class);
        CHECK.refused("move of a pinned box", () -> held(four(), 1, 'p'), x -> x.move(1, 3),
                UnsupportedOperationException.class);
        CHECK.refused("move to the same stack", MovesTest::four, x -> x.move(1, 0),
                UnsupportedOperationException.class);
        CHECK.refused("move to a full stack", MovesTest::four, x -> x.move(1, 1),
                UnsupportedOperationException.class);
        CHECK.refused("move onto a lighter box", MovesTest::four, x -> x.move(3, 0),
                UnsupportedOperationException.class);
    }

    /** Looks at the whole plan, in which each move is a box and a stack. */
    private static void planned(String what, Supplier<Quaylock> scene, int box, int[][] due) {
        CHECK.onlyTells(what + ": planLength", scene, x -> x.planLength(box), due.length);
        CHECK.onlyTells(what + ": planByTrying", scene, x -> x.planByTrying(box), due.length);
        for (int i = 0; i < due.length; i++) {
            int index = i;
            CHECK.onlyTells(what + ": planBox " + i, scene, x -> x.planBox(box, index), due[i][0]);
            CHECK.onlyTells(what + ": planStack " + i, scene, x -> x.planStack(box, index), due[i][1]);
        }
        for (int index : new int[] {-1, due.length, due.length + 1, 5, Integer.MIN_VALUE, Integer.MAX_VALUE}) {
            CHECK.refused(what + ": planBox " + index, scene, x -> x.planBox(box, index),
                    NoSuchElementException.class);
            CHECK.refused(what + ": planStack " + index, scene, x -> x.planStack(box, index),
                    NoSuchElementException.class);
        }
        Quaylock dug = scene.get();
        CHECK.same(what + ": dig", dug.dig(box), due.length);
        CHECK.same(what + ": above after dig", dug.above(box), 0);
        CHECK.alike(what + ": dig", () -> {
            Quaylock yard = scene.get();
            yard.dig(box);
            return yard;
        }, () -> {
            Quaylock yard = scene.get();
            for (int[] move : due) {
                yard.move(move[0], move[1]);
            }
            return yard;
        });
    }

    /** Box 1 (5) over box 0 goes onto an empty stack alone; box 2 (3) has to make room by going onto box 3 (4). */
    private static Quaylock roomIsToBeMade() {
        return yard(new int[] {4, 4, 4}, new int[][] {{9, 0}, {5, 0}, {3, 1}, {4, 2}});
    }

    /** To make room here, two boxes have to go first. */
    private static Quaylock twoAreInTheWay() {
        return yard(new int[] {4, 4, 4}, new int[][] {{9, 0}, {5, 0}, {3, 1}, {3, 1}, {4, 2}});
    }

    private static void plans() {
        planned("at the top", MovesTest::four, 1, new int[][] {});
        planned("one above, the first stack of two", MovesTest::four, 0, new int[][] {{1, 2}});
        planned("one above, stack 0 first", () -> yard(new int[] {1, 2, 1}, new int[][] {{5, 1}, {5, 1}}), 0,
                new int[][] {{1, 0}});
        planned("two above", () -> yard(new int[] {4, 4}, new int[][] {{9, 0}, {5, 0}, {5, 0}}), 0,
                new int[][] {{2, 1}, {1, 1}});
        planned("one move more", MovesTest::roomIsToBeMade, 0, new int[][] {{2, 2}, {1, 1}});
        planned("the lower box makes room", () -> yard(new int[] {4, 4, 4, 4},
                new int[][] {{9, 0}, {5, 0}, {3, 1}, {3, 2}, {2, 3}}), 0, new int[][] {{2, 2}, {1, 1}});
        planned("two above and one move more", () -> yard(new int[] {4, 3, 3},
                new int[][] {{9, 0}, {6, 0}, {4, 0}, {5, 1}, {5, 2}}), 0, new int[][] {{3, 2}, {2, 2}, {1, 1}});
        planned("three above and one of them twice", () -> yard(new int[] {4, 2, 2},
                new int[][] {{9, 0}, {8, 0}, {7, 0}, {6, 0}}), 0, new int[][] {{3, 1}, {2, 2}, {3, 2}, {1, 1}});
        planned("fewer moves before lower boxes", () -> yard(new int[] {4, 4, 4},
                new int[][] {{1, 0}, {9, 1}, {5, 1}}), 1, new int[][] {{2, 2}});
        planned("three above in the last stack", () -> yard(new int[] {1, 1, 1, 4},
                new int[][] {{9, 3}, {8, 3}, {7, 3}, {6, 3}}), 0, new int[][] {{3, 0}, {2, 1}, {1, 2}});
        planned("boxes of one weight", () -> yard(new int[] {4, 2, 2, 2},
                new int[][] {{5, 0}, {5, 0}, {5, 0}, {5, 0}, {5, 1}, {5, 2}, {5, 3}}), 0,
                new int[][] {{3, 1}, {2, 2}, {1, 3}});
        planned("the last numbers", () -> highNumbers(), 18, new int[][] {{19, 0}});
    }

    /** Here so many plans are begun that the order in which they are looked at decides. */
    private static void plansInAFullYard() {
        planned("as many moves as boxes above", () -> Scenes.yard("4 4 4 4", "3@3 1@2 3@3 1@1 1@2 1@3 1@3 1@1"), 0,
                new int[][] {{6, 1}, {5, 1}, {2, 0}});
        planned("one move more", () -> Scenes.yard("2 4 4 4", "7@2 5@0 3@2 6@1 8@3 6@1 5@3 3@1"), 3,
                new int[][] {{1, 3}, {7, 2}, {5, 0}});
        planned("the first move not to the first stack",
                () -> Scenes.yard("4 4 4 2", "2@1 3@2 3@3 3@2 3@2 1@2 3@3 2@1"), 3, new int[][] {{5, 1}, {4, 0}});
    }

    /** The boxes 18 and 19 stand in stack 3; all others have left. */
    private static Quaylock highNumbers() {
        Quaylock yard = yard(new int[] {4, 4, 4, 4}, new int[0][]);
        for (int i = 0; i < 18; i++) {
            yard.addBox(30, 3);
            yard.book(i, i + 1, 0);
            yard.pass(1);
        }
        yard.addBox(30, 3);
        yard.addBox(30, 3);
        return yard;
    }

    private static void noPlan(String what, Supplier<Quaylock> scene, int box) {
        CHECK.refused(what + ": planLength", scene, x -> x.planLength(box), NoSuchElementException.class);
        CHECK.refused(what + ": planByTrying", scene, x -> x.planByTrying(box), NoSuchElementException.class);
        CHECK.refused(what + ": planBox", scene, x -> x.planBox(box, 0), NoSuchElementException.class);
        CHECK.refused(what + ": planStack", scene, x -> x.planStack(box, 0), NoSuchElementException.class);
        CHECK.refused(what + ": dig", scene, x -> x.dig(box), NoSuchElementException.class);
    }

    private static void plansThatPinsForbid() {
        noPlan("a pinned box above", () -> held(four(), 1, 'p'), 0);
        noPlan("a pinned box that should make room", () -> held(roomIsToBeMade(), 2, 'p'), 0);
        noPlan("a pinned box between", () -> held(yard(new int[] {4, 4, 4},
                new int[][] {{5, 0}, {5, 0}, {5, 0}}), 1, 'p'), 0);
        planned("a pinned box to move onto", () -> held(roomIsToBeMade(), 3, 'p'), 0, new int[][] {{2, 2}, {1, 1}});
        planned("the box itself pinned", () -> held(four(), 0, 'p'), 0, new int[][] {{1, 2}});
        planned("the box itself pinned, at the top", () -> held(four(), 1, 'p'), 1, new int[][] {});
        planned("a box above with a hold that pins not", () -> held(four(), 1, 'l'), 0, new int[][] {{1, 2}});
        planned("a hold that has ended", () -> {
            Quaylock yard = four();
            yard.hold(1, 'p', 1);
            yard.pass(1);
            return yard;
        }, 0, new int[][] {{1, 2}});
    }

    private static void plansThatWeightsForbid() {
        noPlan("more than one move more", MovesTest::twoAreInTheWay, 0);
        noPlan("no other stack", () -> yard(new int[] {2}, new int[][] {{5, 0}, {5, 0}}), 0);
        noPlan("all others full", () -> yard(new int[] {2, 1}, new int[][] {{5, 0}, {5, 0}, {5, 1}}), 0);
        noPlan("all others lighter", () -> yard(new int[] {2, 2}, new int[][] {{5, 0}, {5, 0}, {4, 1}}), 0);
        noPlan("room for two of three", () -> yard(new int[] {4, 2},
                new int[][] {{9, 0}, {9, 0}, {9, 0}, {9, 0}}), 0);
    }

    private static void planRefuses() {
        for (int box : NO_BOXES) {
            CHECK.refused("planLength " + box, MovesTest::four, x -> x.planLength(box),
                    IndexOutOfBoundsException.class);
            CHECK.refused("planByTrying " + box, MovesTest::four, x -> x.planByTrying(box),
                    IndexOutOfBoundsException.class);
            CHECK.refused("planBox " + box, MovesTest::four, x -> x.planBox(box, -1),
                    IndexOutOfBoundsException.class);
            CHECK.refused("planStack " + box, MovesTest::four, x -> x.planStack(box, -1),
                    IndexOutOfBoundsException.class);
            CHECK.refused("dig " + box, MovesTest::four, x -> x.dig(box), IndexOutOfBoundsException.class);
        }
        CHECK.refused("planLength of one that has left", MovesTest::oneHasLeft, x -> x.planLength(3),
                IndexOutOfBoundsException.class);
        CHECK.refused("planByTrying of one that has left", MovesTest::oneHasLeft, x -> x.planByTrying(3),
                IndexOutOfBoundsException.class);
        CHECK.refused("planBox of one that has left", MovesTest::oneHasLeft, x -> x.planBox(3, 0),
                IndexOutOfBoundsException.class);
        CHECK.refused("planStack of one that has left", MovesTest::oneHasLeft, x -> x.planStack(3, 0),
                IndexOutOfBoundsException.class);
        CHECK.refused("dig of one that has left", MovesTest::oneHasLeft, x -> x.dig(3),
                IndexOutOfBoundsException.class);
    }

    private static void dig() {
        Quaylock yard = roomIsToBeMade();
        CHECK.same("dig", yard.dig(0), 2);
        CHECK.same("moves", yard.moves(), 2);
        CHECK.same("stack of the box itself", yard.stackOf(0), 0);
        CHECK.same("stacks of the others", "" + yard.stackOf(1) + yard.stackOf(2) + yard.stackOf(3), "122");
        CHECK.same("boxes", yard.boxes(), 4);
        CHECK.same("dig once more", yard.dig(0), 0);
        CHECK.same("moves", yard.moves(), 2);
        CHECK.same("now", yard.now(), 0);
    }

    private static void moves() {
        CHECK.onlyTells("moves of none", MovesTest::four, x -> x.moves(), 0);
        Quaylock yard = roomIsToBeMade();
        yard.move(2, 2);
        CHECK.same("moves after one", yard.moves(), 1);
        yard.move(2, 1);
        CHECK.same("moves after two", yard.moves(), 2);
        yard.dig(0);
        CHECK.same("moves after a dig of two", yard.moves(), 4);
        yard.planLength(0);
        yard.planByTrying(2);
        CHECK.same("moves after questions", yard.moves(), 4);
        Quaylock passed = roomIsToBeMade();
        passed.book(0, 1, 0);
        passed.pass(1);
        CHECK.same("moves when a box leaves", passed.moves(), 2);
        CHECK.same("a move after that", passed.move(1, 0), 3);
    }
}
