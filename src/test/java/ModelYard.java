import java.util.ArrayList;
import java.util.List;
import java.util.NoSuchElementException;

/**
 * The document told once more, as plainly as can be: lists of objects, and plans by going through all rows of moves in
 * their order. Nothing is taken from the program.
 */
final class ModelYard {
    static final class Box {
        int number;
        int weight;
        char hold = '-';
        int until;
        boolean gone;
    }

    static final class Stack {
        int reach;
        final List<Box> boxes = new ArrayList<>();

        Box top() {
            return boxes.isEmpty() ? null : boxes.get(boxes.size() - 1);
        }

        boolean takes(int weight) {
            return boxes.size() < reach && (boxes.isEmpty() || top().weight >= weight);
        }
    }

    static final class Appointment {
        Box box;
        int hour;
        int lane;
        char state = 'b';
    }

    private final List<Stack> stacks = new ArrayList<>();
    private final List<Box> come = new ArrayList<>();
    private final List<Appointment> appointments = new ArrayList<>();
    private int hour;
    private int moved;
    private long weightLeft;

    int addStack(int reach) {
        if (!(1 <= reach && reach <= 4)) {
            throw new IllegalArgumentException();
        }
        if (stacks.size() == 4) {
            throw new IllegalStateException();
        }
        Stack stack = new Stack();
        stack.reach = reach;
        stacks.add(stack);
        return stacks.size() - 1;
    }

    int addBox(int weight, int stack) {
        Stack to = theStack(stack);
        if (!(1 <= weight && weight <= 30)) {
            throw new IllegalArgumentException();
        }
        if (!to.takes(weight)) {
            throw new UnsupportedOperationException();
        }
        if (boxes() == 8 || come.size() == 20) {
            throw new IllegalStateException();
        }
        Box box = new Box();
        box.number = come.size();
        box.weight = weight;
        come.add(box);
        to.boxes.add(box);
        return box.number;
    }

    int boxes() {
        int sum = 0;
        for (Stack stack : stacks) {
            sum += stack.boxes.size();
        }
        return sum;
    }

    boolean isInYard(int box) {
        return box >= 0 && box < come.size() && !come.get(box).gone;
    }

    int weight(int box) {
        return theBox(box).weight;
    }

    int stackOf(int box) {
        return stacks.indexOf(under(theBox(box)));
    }

    int level(int box) {
        return under(theBox(box)).boxes.indexOf(theBox(box));
    }

    int above(int box) {
        return boxesAbove(theBox(box)).size();
    }

    int height(int stack) {
        return theStack(stack).boxes.size();
    }

    int boxAt(int stack, int level) {
        List<Box> boxes = theStack(stack).boxes;
        if (level < 0 || level >= boxes.size()) {
            throw new NoSuchElementException();
        }
        return boxes.get(level).number;
    }

    int hold(int number, char kind, int until) {
        Box box = theBox(number);
        if ("pl".indexOf(kind) < 0 || until <= hour || until > 1000) {
            throw new IllegalArgumentException();
        }
        box.hold = kind;
        box.until = until;
        for (Appointment one : appointments) {
            if (one.box == box && one.state == 'b' && one.hour < until) {
                one.state = 'g';
                return 1;
            }
        }
        return 0;
    }

    int release(int number) {
        Box box = theBox(number);
        if (box.hold == '-') {
            throw new IllegalStateException();
        }
        box.hold = '-';
        return box.until;
    }

    char holdOf(int box) {
        return theBox(box).hold;
    }

    int heldUntil(int box) {
        if (theBox(box).hold == '-') {
            throw new NoSuchElementException();
        }
        return theBox(box).until;
    }

    int pinnedAbove(int box) {
        int pinned = 0;
        for (Box other : boxesAbove(theBox(box))) {
            pinned += other.hold == 'p' ? 1 : 0;
        }
        return pinned;
    }

    char why(int number, int stack) {
        Box box = theBox(number);
        Stack to = theStack(stack);
        Stack from = under(box);
        return from.top() != box ? 't'
                : box.hold == 'p' ? 'p'
                : from == to ? 's'
                : to.boxes.size() == to.reach ? 'f'
                : !to.takes(box.weight) ? 'w' : '-';
    }

    int move(int number, int stack) {
        if (why(number, stack) != '-') {
            throw new UnsupportedOperationException();
        }
        carry(theBox(number), theStack(stack));
        moved++;
        return moved;
    }

    int planLength(int box) {
        return thePlan(theBox(box)).size();
    }

    int planBox(int box, int index) {
        return theMove(box, index)[0];
    }

    int planStack(int box, int index) {
        return theMove(box, index)[1];
    }

    int dig(int number) {
        List<int[]> plan = thePlan(theBox(number));
        for (int[] move : plan) {
            move(move[0], move[1]);
        }
        return plan.size();
    }

    int moves() {
        return moved;
    }

    int book(int number, int at, int lane) {
        Box box = theBox(number);
        checkLane(lane);
        if (at <= hour || at > 999) {
            throw new IllegalArgumentException();
        }
        if (box.hold != '-' && box.until > at) {
            throw new UnsupportedOperationException();
        }
        boolean boxHasOne = false;
        for (Appointment one : appointments) {
            boxHasOne |= one.box == box && one.state == 'b';
        }
        if (boxHasOne || inLane(lane, at) >= 0 || appointments.size() == 30) {
            throw new IllegalStateException();
        }
        Appointment made = new Appointment();
        made.box = box;
        made.hour = at;
        made.lane = lane;
        appointments.add(made);
        return appointments.size() - 1;
    }

    int cancel(int appointment) {
        if (stateOf(appointment) != 'b') {
            throw new IllegalStateException();
        }
        appointments.get(appointment).state = 'c';
        return number('b');
    }

    char stateOf(int appointment) {
        if (appointment < 0 || appointment >= appointments.size()) {
            throw new IndexOutOfBoundsException();
        }
        return appointments.get(appointment).state;
    }

    int appointmentOf(int box) {
        Box asked = theBox(box);
        for (Appointment one : appointments) {
            if (one.box == asked && one.state == 'b') {
                return appointments.indexOf(one);
            }
        }
        throw new NoSuchElementException();
    }

    int inLane(int lane, int at) {
        checkLane(lane);
        if (at < 0 || at > 999) {
            throw new IllegalArgumentException();
        }
        for (Appointment one : appointments) {
            if (one.lane == lane && one.hour == at && one.state == 'b') {
                return appointments.indexOf(one);
            }
        }
        return -1;
    }

    int firstHour(int number) {
        Box box = theBox(number);
        for (int at = hour + 1; at <= 999; at++) {
            boolean held = box.hold != '-' && at < box.until;
            boolean free = inLane(0, at) < 0 || inLane(1, at) < 0 || inLane(2, at) < 0;
            if (!held && free) {
                return at;
            }
        }
        throw new NoSuchElementException();
    }

    int pass(int hours) {
        if (hours < 1 || hours > 24 || hour + hours > 999) {
            throw new IllegalArgumentException();
        }
        int left = 0;
        for (int i = 0; i < hours; i++) {
            hour++;
            for (Box box : come) {
                if (box.hold != '-' && box.until == hour) {
                    box.hold = '-';
                }
            }
            for (int lane = 0; lane < 3; lane++) {
                int found = inLane(lane, hour);
                if (found >= 0 && leaves(appointments.get(found))) {
                    left++;
                }
            }
        }
        return left;
    }

    private boolean leaves(Appointment appointment) {
        Box box = appointment.box;
        if (box.hold != '-' || planOrNull(box) == null) {
            appointment.state = 'm';
            return false;
        }
        dig(box.number);
        under(box).boxes.remove(box);
        box.gone = true;
        weightLeft += box.weight;
        appointment.state = 'd';
        return true;
    }

    int now() {
        return hour;
    }

    long weightLeft() {
        return weightLeft;
    }

    float doneShare() {
        int all = number('d') + number('m') + number('g');
        if (all == 0) {
            throw new NoSuchElementException();
        }
        return (float) number('d') / (float) all;
    }

    private int number(char state) {
        int sum = 0;
        for (Appointment one : appointments) {
            sum += one.state == state ? 1 : 0;
        }
        return sum;
    }

    private static void checkLane(int lane) {
        if (lane < 0 || lane > 2) {
            throw new IndexOutOfBoundsException();
        }
    }

    private Stack theStack(int stack) {
        if (stack < 0 || stack >= stacks.size()) {
            throw new IndexOutOfBoundsException();
        }
        return stacks.get(stack);
    }

    private Box theBox(int box) {
        if (!isInYard(box)) {
            throw new IndexOutOfBoundsException();
        }
        return come.get(box);
    }

    private Stack under(Box box) {
        for (Stack stack : stacks) {
            if (stack.boxes.contains(box)) {
                return stack;
            }
        }
        throw new AssertionError("the box stands nowhere");
    }

    private List<Box> boxesAbove(Box box) {
        List<Box> boxes = under(box).boxes;
        return boxes.subList(boxes.indexOf(box) + 1, boxes.size());
    }

    private void carry(Box box, Stack to) {
        under(box).boxes.remove(box);
        to.boxes.add(box);
    }

    private int[] theMove(int box, int index) {
        List<int[]> plan = thePlan(theBox(box));
        if (index < 0 || index >= plan.size()) {
            throw new NoSuchElementException();
        }
        return plan.get(index);
    }

    private List<int[]> thePlan(Box box) {
        List<int[]> plan = planOrNull(box);
        if (plan == null) {
            throw new NoSuchElementException();
        }
        return plan;
    }

    private List<int[]> planOrNull(Box box) {
        int most = boxesAbove(box).size() + 1;
        for (int length = 0; length <= most; length++) {
            List<int[]> plan = new ArrayList<>();
            if (completes(box, length, plan)) {
                return plan;
            }
        }
        return null;
    }

    /** Goes through all rows of so many moves in the order of boxes and stacks, and leaves the yard as it was. */
    private boolean completes(Box box, int length, List<int[]> plan) {
        if (length == 0) {
            return boxesAbove(box).isEmpty();
        }
        for (Box other : come) {
            if (other.gone || other == box) {
                continue;
            }
            for (int to = 0; to < stacks.size(); to++) {
                if (why(other.number, to) != '-') {
                    continue;
                }
                Stack from = under(other);
                carry(other, stacks.get(to));
                plan.add(new int[] {other.number, to});
                boolean found = completes(box, length - 1, plan);
                carry(other, from);
                if (found) {
                    return true;
                }
                plan.remove(plan.size() - 1);
            }
        }
        return false;
    }
}
