import java.util.NoSuchElementException;

/** Promises 1 to 11. */
public final class StacksAndBoxesTest {
    private static final Check CHECK = new Check("StacksAndBoxesTest");

    public static void main(String[] args) {
        newObject();
        addStack();
        addStackRefuses();
        addBox();
        addBoxRefuses();
        addBoxRefusesInOrder();
        boxesAndIsInYard();
        weightStackAndLevel();
        questionsAboutNoBox();
        height();
        boxAt();
        objectsDoNotMix();
        CHECK.end();
    }

    /** Stack 0 of reach 4 has the boxes 0 (9), 1 (9), 2 (5); stack 1 of reach 1 has box 3 (4); stack 2 is empty. */
    private static Quaylock threeStacks() {
        Quaylock yard = new Quaylock();
        yard.addStack(4);
        yard.addStack(1);
        yard.addStack(3);
        yard.addBox(9, 0);
        yard.addBox(9, 0);
        yard.addBox(5, 0);
        yard.addBox(4, 1);
        return yard;
    }

    private static Quaylock fourEmptyStacks() {
        Quaylock yard = new Quaylock();
        for (int i = 0; i < 4; i++) {
            yard.addStack(4);
        }
        return yard;
    }

    private static Quaylock eightBoxes() {
        Quaylock yard = fourEmptyStacks();
        for (int i = 0; i < 8; i++) {
            yard.addBox(7, i / 3);
        }
        return yard;
    }

    /** 20 boxes have come, of which the last is in the yard. */
    private static Quaylock twentyHaveCome() {
        Quaylock yard = fourEmptyStacks();
        for (int i = 0; i < 20; i++) {
            int box = yard.addBox(2, i % 4);
            if (i < 19) {
                yard.book(box, yard.now() + 1, 0);
                yard.pass(1);
            }
        }
        return yard;
    }

    private static void newObject() {
        Quaylock yard = new Quaylock();
        CHECK.same("boxes of a new yard", yard.boxes(), 0);
        CHECK.same("hour of a new yard", yard.now(), 0);
        CHECK.same("moves of a new yard", yard.moves(), 0);
        CHECK.same("weightLeft of a new yard", yard.weightLeft(), 0L);
        CHECK.same("isInYard of a new yard", yard.isInYard(0), false);
        CHECK.same("inLane of a new yard", yard.inLane(0, 0), -1);
        CHECK.refused("height of a new yard", Quaylock::new, x -> x.height(0), IndexOutOfBoundsException.class);
        CHECK.refused("stateOf of a new yard", Quaylock::new, x -> x.stateOf(0), IndexOutOfBoundsException.class);
        CHECK.refused("doneShare of a new yard", Quaylock::new, x -> x.doneShare(), NoSuchElementException.class);
    }

    private static void addStack() {
        Quaylock yard = new Quaylock();
        for (int reach = 1; reach <= 4; reach++) {
            CHECK.same("addStack", yard.addStack(reach), reach - 1);
        }
        for (int stack = 0; stack < 4; stack++) {
            for (int i = 0; i < 4; i++) {
                int due = i <= stack ? 1 : 0;
                CHECK.same("room in stack " + stack, roomLeft(stack, i), due);
            }
        }
    }

    /** Tells whether a stack of the reach stack + 1 takes one more box when it has so many. */
    private static int roomLeft(int stack, int boxes) {
        Quaylock yard = new Quaylock();
        for (int reach = 1; reach <= 4; reach++) {
            yard.addStack(reach);
        }
        int taken = 0;
        for (int i = 0; i <= boxes; i++) {
            try {
                yard.addBox(3, stack);
                taken++;
            } catch (UnsupportedOperationException e) {
                return taken > boxes ? 1 : 0;
            }
        }
        return 1;
    }

    private static void addStackRefuses() {
        for (int reach : new int[] {0, 5, -1, Integer.MIN_VALUE, Integer.MAX_VALUE}) {
            CHECK.refused("addStack " + reach, Quaylock::new, x -> x.addStack(reach), IllegalArgumentException.class);
            CHECK.refused("addStack " + reach + " as the fifth", StacksAndBoxesTest::fourEmptyStacks,
                    x -> x.addStack(reach), IllegalArgumentException.class);
        }
        CHECK.refused("a fifth stack", StacksAndBoxesTest::fourEmptyStacks, x -> x.addStack(1),
                IllegalStateException.class);
        CHECK.refused("a fifth stack", StacksAndBoxesTest::fourEmptyStacks, x -> x.addStack(4),
                IllegalStateException.class);
    }

    private static void addBox() {
        Quaylock yard = fourEmptyStacks();
        CHECK.same("the heaviest box", yard.addBox(30, 0), 0);
        CHECK.same("a box of the same weight", yard.addBox(30, 0), 1);
        CHECK.same("a lighter box", yard.addBox(29, 0), 2);
        CHECK.same("the lightest box", yard.addBox(1, 3), 3);
        CHECK.same("another lightest box", yard.addBox(1, 0), 4);
        CHECK.same("stack of the last", yard.stackOf(4), 0);
        CHECK.same("level of the last", yard.level(4), 3);
        CHECK.same("the eighth box", eightBoxes().stackOf(7), 2);
        CHECK.same("the twentieth box", twentyHaveCome().weight(19), 2);
        CHECK.same("boxes when 20 have come", twentyHaveCome().boxes(), 1);
    }

    private static void addBoxRefuses() {
        for (int stack : new int[] {-1, 3, 4, Integer.MIN_VALUE, Integer.MAX_VALUE}) {
            CHECK.refused("addBox onto stack " + stack, StacksAndBoxesTest::threeStacks, x -> x.addBox(3, stack),
                    IndexOutOfBoundsException.class);
        }
        for (int weight : new int[] {0, 31, -1, Integer.MIN_VALUE, Integer.MAX_VALUE}) {
            CHECK.refused("addBox of weight " + weight, StacksAndBoxesTest::threeStacks, x -> x.addBox(weight, 2),
                    IllegalArgumentException.class);
        }
        CHECK.refused("addBox onto a lighter box", StacksAndBoxesTest::threeStacks, x -> x.addBox(6, 0),
                UnsupportedOperationException.class);
        CHECK.refused("addBox onto a full stack", StacksAndBoxesTest::threeStacks, x -> x.addBox(1, 1),
                UnsupportedOperationException.class);
        CHECK.refused("a ninth box", StacksAndBoxesTest::eightBoxes, x -> x.addBox(1, 3),
                IllegalStateException.class);
        CHECK.refused("a twenty-first box", StacksAndBoxesTest::twentyHaveCome, x -> x.addBox(1, 0),
                IllegalStateException.class);
    }

    private static void addBoxRefusesInOrder() {
        CHECK.refused("addBox of weight 0 onto no stack", StacksAndBoxesTest::threeStacks, x -> x.addBox(0, 3),
                IndexOutOfBoundsException.class);
        CHECK.refused("addBox of weight 31 onto a full stack", StacksAndBoxesTest::threeStacks,
                x -> x.addBox(31, 1), IllegalArgumentException.class);
        CHECK.refused("a ninth box onto a lighter one", StacksAndBoxesTest::eightBoxes, x -> x.addBox(8, 0),
                UnsupportedOperationException.class);
        CHECK.refused("a twenty-first box onto a lighter one", StacksAndBoxesTest::twentyHaveCome,
                x -> x.addBox(3, 3), UnsupportedOperationException.class);
    }

    private static void boxesAndIsInYard() {
        CHECK.onlyTells("boxes", StacksAndBoxesTest::threeStacks, x -> x.boxes(), 4);
        CHECK.onlyTells("isInYard 0", StacksAndBoxesTest::threeStacks, x -> x.isInYard(0), true);
        CHECK.onlyTells("isInYard 3", StacksAndBoxesTest::threeStacks, x -> x.isInYard(3), true);
        for (int box : new int[] {-1, 4, 19, 20, 21, Integer.MIN_VALUE, Integer.MAX_VALUE}) {
            CHECK.onlyTells("isInYard " + box, StacksAndBoxesTest::threeStacks, x -> x.isInYard(box), false);
        }
        CHECK.same("isInYard of the last of 20", twentyHaveCome().isInYard(19), true);
        CHECK.same("isInYard of one that has left", twentyHaveCome().isInYard(18), false);
        CHECK.same("boxes, one more", eightBoxes().boxes(), 8);
    }

    private static void weightStackAndLevel() {
        int[] weights = {9, 9, 5, 4};
        int[] stacks = {0, 0, 0, 1};
        int[] levels = {0, 1, 2, 0};
        int[] above = {2, 1, 0, 0};
        for (int i = 0; i < 4; i++) {
            int box = i;
            CHECK.onlyTells("weight " + box, StacksAndBoxesTest::threeStacks, x -> x.weight(box), weights[box]);
            CHECK.onlyTells("stackOf " + box, StacksAndBoxesTest::threeStacks, x -> x.stackOf(box), stacks[box]);
            CHECK.onlyTells("level " + box, StacksAndBoxesTest::threeStacks, x -> x.level(box), levels[box]);
            CHECK.onlyTells("above " + box, StacksAndBoxesTest::threeStacks, x -> x.above(box), above[box]);
        }
        Quaylock yard = threeStacks();
        yard.move(2, 2);
        CHECK.same("stackOf after a move", yard.stackOf(2), 2);
        CHECK.same("level after a move", yard.level(2), 0);
        CHECK.same("above after a move", yard.above(0), 1);
    }

    private static void questionsAboutNoBox() {
        for (int box : new int[] {-1, 4, 19, 20, Integer.MIN_VALUE, Integer.MAX_VALUE}) {
            CHECK.refused("weight " + box, StacksAndBoxesTest::threeStacks, x -> x.weight(box),
                    IndexOutOfBoundsException.class);
            CHECK.refused("stackOf " + box, StacksAndBoxesTest::threeStacks, x -> x.stackOf(box),
                    IndexOutOfBoundsException.class);
            CHECK.refused("level " + box, StacksAndBoxesTest::threeStacks, x -> x.level(box),
                    IndexOutOfBoundsException.class);
            CHECK.refused("above " + box, StacksAndBoxesTest::threeStacks, x -> x.above(box),
                    IndexOutOfBoundsException.class);
        }
        CHECK.refused("weight of a box that has left", StacksAndBoxesTest::twentyHaveCome, x -> x.weight(0),
                IndexOutOfBoundsException.class);
        CHECK.refused("stackOf a box that has left", StacksAndBoxesTest::twentyHaveCome, x -> x.stackOf(18),
                IndexOutOfBoundsException.class);
        CHECK.refused("level of a box that has left", StacksAndBoxesTest::twentyHaveCome, x -> x.level(18),
                IndexOutOfBoundsException.class);
        CHECK.refused("above a box that has left", StacksAndBoxesTest::twentyHaveCome, x -> x.above(18),
                IndexOutOfBoundsException.class);
    }

    private static void height() {
        int[] heights = {3, 1, 0};
        for (int i = 0; i < 3; i++) {
            int stack = i;
            CHECK.onlyTells("height " + stack, StacksAndBoxesTest::threeStacks, x -> x.height(stack), heights[stack]);
        }
        for (int stack : new int[] {-1, 3, 4, Integer.MIN_VALUE, Integer.MAX_VALUE}) {
            CHECK.refused("height " + stack, StacksAndBoxesTest::threeStacks, x -> x.height(stack),
                    IndexOutOfBoundsException.class);
        }
        CHECK.same("height after one has left", twentyHaveCome().height(2), 0);
        CHECK.same("height of the last one's stack", twentyHaveCome().height(3), 1);
    }

    private static void boxAt() {
        for (int i = 0; i < 3; i++) {
            int level = i;
            CHECK.onlyTells("boxAt 0 " + level, StacksAndBoxesTest::threeStacks, x -> x.boxAt(0, level), level);
        }
        CHECK.onlyTells("boxAt 1 0", StacksAndBoxesTest::threeStacks, x -> x.boxAt(1, 0), 3);
        int[][] empty = {{0, 3}, {0, 4}, {0, -1}, {1, 1}, {2, 0}, {2, -1}, {0, Integer.MAX_VALUE},
            {0, Integer.MIN_VALUE}};
        for (int[] place : empty) {
            CHECK.refused("boxAt " + place[0] + " " + place[1], StacksAndBoxesTest::threeStacks,
                    x -> x.boxAt(place[0], place[1]), NoSuchElementException.class);
        }
        int[][] outside = {{-1, 0}, {3, 0}, {4, 9}, {Integer.MIN_VALUE, -1}, {Integer.MAX_VALUE, 0}};
        for (int[] place : outside) {
            CHECK.refused("boxAt " + place[0] + " " + place[1], StacksAndBoxesTest::threeStacks,
                    x -> x.boxAt(place[0], place[1]), IndexOutOfBoundsException.class);
        }
        Quaylock yard = threeStacks();
        yard.move(2, 2);
        CHECK.same("boxAt where a box has come", yard.boxAt(2, 0), 2);
        CHECK.refused("boxAt where a box has gone", () -> {
            Quaylock moved = threeStacks();
            moved.move(2, 2);
            return moved;
        }, x -> x.boxAt(0, 2), NoSuchElementException.class);
    }

    private static void objectsDoNotMix() {
        Quaylock one = threeStacks();
        Quaylock other = eightBoxes();
        CHECK.same("boxes of the one", one.boxes(), 4);
        CHECK.same("boxes of the other", other.boxes(), 8);
        CHECK.same("weight in the one", one.weight(0), 9);
        CHECK.same("weight in the other", other.weight(0), 7);
    }
}
