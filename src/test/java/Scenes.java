/** Yards that the boundary tests need. Each call makes a new one, and always alike. */
final class Scenes {
    private Scenes() {
    }

    /** "4 1" and "9@0 5@0 3@1": the reaches of the stacks, and the boxes as weight@stack, the first to come first. */
    static Quaylock yard(String reaches, String boxes) {
        Quaylock yard = new Quaylock();
        for (String reach : words(reaches)) {
            yard.addStack(Integer.parseInt(reach));
        }
        for (String box : words(boxes)) {
            int at = box.indexOf('@');
            yard.addBox(Integer.parseInt(box.substring(0, at)), Integer.parseInt(box.substring(at + 1)));
        }
        return yard;
    }

    private static String[] words(String text) {
        return text.isEmpty() ? new String[0] : text.split(" ");
    }

    static Quaylock at(int hour, Quaylock yard) {
        while (yard.now() < hour) {
            yard.pass(Math.min(24, hour - yard.now()));
        }
        return yard;
    }

    static Quaylock held(int box, char kind, int until, Quaylock yard) {
        yard.hold(box, kind, until);
        return yard;
    }

    static Quaylock booked(int box, int hour, int lane, Quaylock yard) {
        yard.book(box, hour, lane);
        return yard;
    }

    static Quaylock cancelled(int appointment, Quaylock yard) {
        yard.cancel(appointment);
        return yard;
    }

    static Quaylock passed(int hours, Quaylock yard) {
        yard.pass(hours);
        return yard;
    }

    /** Stack 0 has the boxes 0 (9), 1 (7) and 2 (5), stack 1 has box 3 (8), stack 2 is empty; the hour is 10. */
    static Quaylock four() {
        return at(10, yard("4 4 4", "9@0 7@0 5@0 8@1"));
    }

    /** The boxes 0, 1 and 2 are in the yard, box 3 has left, box 4 is the next to come; the hour is 11. */
    static Quaylock oneHasLeft() {
        return passed(1, booked(3, 11, 0, four()));
    }

    /** All four have left, the last in hour 14. */
    static Quaylock allHaveLeft() {
        Quaylock yard = oneHasLeft();
        for (int box = 2; box >= 0; box--) {
            passed(1, booked(box, yard.now() + 1, 0, yard));
        }
        return yard;
    }

    static Quaylock fourStacks() {
        return yard("4 4 4 4", "");
    }

    /** As many boxes as may be in the yard: three in stack 0, three in stack 1, two in stack 2, none in stack 3. */
    static Quaylock eightBoxes() {
        return yard("4 4 4 4", "7@0 7@0 7@0 7@1 7@1 7@1 7@2 7@2");
    }

    /** As many boxes as may come: the last one, box 19, is in stack 3 and its weight is 2; the hour is 19. */
    static Quaylock twentyHaveCome() {
        Quaylock yard = fourStacks();
        for (int i = 0; i < 20; i++) {
            int box = yard.addBox(2, i % 4);
            if (box < 19) {
                passed(1, booked(box, yard.now() + 1, 0, yard));
            }
        }
        return yard;
    }

    static Quaylock twentyHaveLeft() {
        return passed(1, booked(19, 20, 0, twentyHaveCome()));
    }

    /** As many appointments as there may be, all for box 0 and lane 1; the last one is booked for hour 129. */
    static Quaylock thirtyBooked() {
        Quaylock yard = four();
        for (int i = 0; i < 29; i++) {
            cancelled(i, booked(0, 100 + i, 1, yard));
        }
        return booked(0, 129, 1, yard);
    }

    /** Appointment 0, for box 0 in hour 11, was missed, because box 2 above it was pinned; the hour is 11. */
    static Quaylock missed() {
        return passed(1, booked(0, 11, 0, held(2, 'p', 12, four())));
    }

    /** Appointment 0, for box 2 in hour 20 and lane 2, was given back by a hold up to 21. */
    static Quaylock givenBack() {
        return held(2, 'l', 21, booked(2, 20, 2, four()));
    }

    /** Appointment 0, for box 2 in hour 20 and lane 2, is booked. */
    static Quaylock oneBooked() {
        return booked(2, 20, 2, four());
    }
}
