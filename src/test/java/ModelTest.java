import java.util.function.Supplier;

/**
 * Long runs of calls, right and wrong ones, on the class and on the model: every answer and every exception must be
 * the same. The calls come from a fixed row of numbers, so a run that fails fails again.
 */
public final class ModelTest {
    private static final int YARDS = 6000;
    /** A yard gets a few calls more, but never more than the 512 for which it is used. */
    private static final int CALLS = 500;

    private final Dice dice;
    private final int number;
    private final int heaviest;
    private final int stacksAtFirst;
    private final int reachAtFirst;
    private final int farthestHour;
    private final boolean late;
    private final StringBuilder told = new StringBuilder();
    private Quaylock yard;
    private ModelYard model;
    private int calls;
    private boolean differs;

    private ModelTest(int number) {
        this.number = number;
        dice = new Dice(number * 7919L + 13);
        heaviest = new int[] {1, 2, 3, 30}[dice.below(4)];
        stacksAtFirst = new int[] {4, 4, 3, 2, 1, 0}[dice.below(6)];
        reachAtFirst = dice.below(3) == 0 ? 0 : 4;
        farthestHour = new int[] {2, 4, 12, 60}[dice.below(4)];
        late = dice.below(8) == 0;
    }

    /** A fixed row of numbers. */
    private static final class Dice {
        private long state;

        Dice(long seed) {
            state = seed;
        }

        int below(int bound) {
            state = state * 6364136223846793005L + 1442695040888963407L;
            return (int) ((state >>> 33) % bound);
        }
    }

    public static void main(String[] args) {
        int wrong = 0;
        for (int i = 0; i < YARDS && wrong < 5; i++) {
            wrong += new ModelTest(i).agrees() ? 0 : 1;
        }
        System.out.println("ModelTest: " + (wrong == 0 ? YARDS + " yards are as the model" : "yards differ"));
        if (wrong > 0) {
            System.exit(1);
        }
    }

    private boolean agrees() {
        yard = new Quaylock();
        model = new ModelYard();
        for (int i = 0; i < stacksAtFirst; i++) {
            addStack(reachAtFirst == 0 ? 1 + dice.below(4) : reachAtFirst);
        }
        if (late) {
            for (int i = 0; i < 41; i++) {
                pass(24);
            }
        }
        while (calls < CALLS && !differs) {
            callAny();
        }
        return !differs;
    }

    private void compare(String name, Supplier<Object> asked, Supplier<Object> due) {
        calls++;
        Object got = outcome(asked);
        Object want = outcome(due);
        told.append(name).append(" -> ").append(want).append('\n');
        if (!want.equals(got) && !differs) {
            differs = true;
            System.out.println("yard " + number + ":\n" + told + "  but the class answered " + got);
        }
    }

    private static Object outcome(Supplier<Object> answer) {
        try {
            return answer.get();
        } catch (RuntimeException e) {
            return e.getClass().getName();
        }
    }

    /** Mostly a number from 0 to top, at times one beside these. */
    private int near(int top) {
        switch (dice.below(24)) {
            case 0:
                return -1;
            case 1:
                return top + 1;
            case 2:
                return new int[] {Integer.MIN_VALUE, Integer.MAX_VALUE, 1 << 30, -2}[dice.below(4)];
            default:
                return dice.below(top + 1);
        }
    }

    /** Mostly a box that is in the yard. */
    private int anyBox() {
        if (model.boxes() == 0 || dice.below(12) == 0) {
            return near(20);
        }
        int wanted = dice.below(model.boxes());
        for (int box = 0; box < 20; box++) {
            if (model.isInYard(box) && wanted-- == 0) {
                return box;
            }
        }
        return 20;
    }

    private int anyStack() {
        return dice.below(30) == 0 ? near(4) : dice.below(Math.max(1, stacksAtFirst));
    }

    private int anyHour() {
        switch (dice.below(16)) {
            case 0:
                return near(1001);
            case 1:
                return 998 + dice.below(4);
            case 2:
                return model.now() - dice.below(3);
            default:
                return model.now() + 1 + dice.below(farthestHour);
        }
    }

    private void callAny() {
        int kind = dice.below(100);
        if (kind < 16) {
            int weight = dice.below(40) == 0 ? near(31) : 1 + dice.below(heaviest);
            int stack = anyStack();
            compare("addBox " + weight + " " + stack, () -> yard.addBox(weight, stack),
                    () -> model.addBox(weight, stack));
        } else if (kind < 30) {
            callThatMoves();
        } else if (kind < 45) {
            callAboutPlans();
        } else if (kind < 66) {
            callAboutAppointments();
        } else if (kind < 72) {
            pass(dice.below(10) == 0 ? near(25) : 1 + dice.below(Math.min(24, farthestHour)));
        } else if (kind < 80) {
            callAboutHolds();
        } else {
            question();
        }
    }

    private void addStack(int reach) {
        compare("addStack " + reach, () -> yard.addStack(reach), () -> model.addStack(reach));
    }

    private void callThatMoves() {
        int box = anyBox();
        int stack = anyStack();
        switch (dice.below(8)) {
            case 0:
                compare("dig " + box, () -> yard.dig(box), () -> model.dig(box));
                break;
            case 1:
                compare("why " + box + " " + stack, () -> yard.why(box, stack), () -> model.why(box, stack));
                break;
            default:
                compare("move " + box + " " + stack, () -> yard.move(box, stack), () -> model.move(box, stack));
        }
    }

    private void callAboutPlans() {
        int box = anyBox();
        int index = near(4);
        switch (dice.below(5)) {
            case 0:
                compare("planLength " + box, () -> yard.planLength(box), () -> model.planLength(box));
                break;
            case 1:
                compare("planByTrying " + box, () -> yard.planByTrying(box), () -> model.planLength(box));
                break;
            case 2:
                compare("planBox " + box + " " + index, () -> yard.planBox(box, index),
                        () -> model.planBox(box, index));
                break;
            case 3:
                compare("planStack " + box + " " + index, () -> yard.planStack(box, index),
                        () -> model.planStack(box, index));
                break;
            default:
                wholePlan(box);
        }
    }

    private void wholePlan(int box) {
        for (int i = 0; i < 5; i++) {
            int index = i;
            compare("planBox " + box + " " + i, () -> yard.planBox(box, index), () -> model.planBox(box, index));
            compare("planStack " + box + " " + i, () -> yard.planStack(box, index),
                    () -> model.planStack(box, index));
        }
    }

    private void callAboutAppointments() {
        int box = anyBox();
        int at = anyHour();
        int lane = dice.below(20) == 0 ? near(3) : dice.below(3);
        int appointment = near(30);
        switch (dice.below(9)) {
            case 0:
                if (dice.below(3) == 0) {
                    compare("cancel " + appointment, () -> yard.cancel(appointment),
                            () -> model.cancel(appointment));
                }
                break;
            case 1:
                compare("stateOf " + appointment, () -> yard.stateOf(appointment), () -> model.stateOf(appointment));
                break;
            case 2:
                compare("appointmentOf " + box, () -> yard.appointmentOf(box), () -> model.appointmentOf(box));
                break;
            case 3:
                compare("inLane " + lane + " " + at, () -> yard.inLane(lane, at), () -> model.inLane(lane, at));
                break;
            case 4:
                compare("firstHour " + box, () -> yard.firstHour(box), () -> model.firstHour(box));
                break;
            default:
                compare("book " + box + " " + at + " " + lane, () -> yard.book(box, at, lane),
                        () -> model.book(box, at, lane));
        }
    }

    private void pass(int hours) {
        compare("pass " + hours, () -> yard.pass(hours), () -> model.pass(hours));
    }

    private void callAboutHolds() {
        int box = anyBox();
        char kind = dice.below(20) == 0 ? (char) near(130) : "pl".charAt(dice.below(2));
        int until = dice.below(6) == 0 ? 1000 : anyHour();
        if (dice.below(2) == 0) {
            compare("release " + box, () -> yard.release(box), () -> model.release(box));
        } else {
            compare("hold " + box + " " + kind + " " + until, () -> yard.hold(box, kind, until),
                    () -> model.hold(box, kind, until));
        }
    }

    private void question() {
        int box = anyBox();
        int stack = near(4);
        switch (dice.below(16)) {
            case 0:
                addStack(near(5));
                break;
            case 1:
                compare("boxes", () -> yard.boxes(), () -> model.boxes());
                break;
            case 2:
                compare("isInYard " + box, () -> yard.isInYard(box), () -> model.isInYard(box));
                break;
            case 3:
                compare("weight " + box, () -> yard.weight(box), () -> model.weight(box));
                break;
            case 4:
                compare("stackOf " + box, () -> yard.stackOf(box), () -> model.stackOf(box));
                break;
            case 5:
                compare("level " + box, () -> yard.level(box), () -> model.level(box));
                break;
            case 6:
                compare("above " + box, () -> yard.above(box), () -> model.above(box));
                break;
            case 7:
                compare("height " + stack, () -> yard.height(stack), () -> model.height(stack));
                break;
            case 8:
                int level = near(4);
                compare("boxAt " + stack + " " + level, () -> yard.boxAt(stack, level),
                        () -> model.boxAt(stack, level));
                break;
            case 9:
                compare("holdOf " + box, () -> yard.holdOf(box), () -> model.holdOf(box));
                break;
            case 10:
                compare("heldUntil " + box, () -> yard.heldUntil(box), () -> model.heldUntil(box));
                break;
            case 11:
                compare("pinnedAbove " + box, () -> yard.pinnedAbove(box), () -> model.pinnedAbove(box));
                break;
            case 12:
                compare("moves", () -> yard.moves(), () -> model.moves());
                break;
            case 13:
                compare("now", () -> yard.now(), () -> model.now());
                break;
            case 14:
                compare("weightLeft", () -> yard.weightLeft(), () -> model.weightLeft());
                break;
            default:
                compare("doneShare", () -> yard.doneShare(), () -> model.doneShare());
        }
    }
}
