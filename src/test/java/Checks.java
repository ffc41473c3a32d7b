import java.util.function.IntUnaryOperator;

/** Counts the answers that are not due. */
final class Checks {
    static final int INVALID = FiberTrace.INVALID_ARGUMENT;
    static final int NOT_POSSIBLE = FiberTrace.NOT_POSSIBLE;
    static final int LIMIT = FiberTrace.LIMIT_REACHED;
    static final int NOT_FOUND = FiberTrace.NOT_FOUND;

    private static int wrong = 0;
    private static String standing = "";

    private Checks() {
    }

    /** What is checked from here on is what these words of the document's section ask for. */
    static void sentence(String section, String words) {
        standing = " (" + section + ": " + words + ")";
        if (!Document.quote(section, words)) {
            wrong++;
            System.out.println("the document does not say this, or not once" + standing);
        }
    }

    static void due(String call, long got, long want) {
        if (got != want) {
            wrong++;
            System.out.println(call + " answered " + got + ", due is " + want + standing);
        }
    }

    /** The answers for an argument that grows by 1 from a first one on. */
    static void row(String call, IntUnaryOperator ask, int first, int... due) {
        for (int i = 0; i < due.length; i++) {
            due(call + " of " + (first + i), ask.applyAsInt(first + i), due[i]);
        }
    }

    /** An argument is taken at both ends of its range, and refused next to them and far from them. */
    static void onlyWithin(String call, IntUnaryOperator ask, int least, int greatest) {
        for (int outside : new int[] {least - 1, greatest + 1, Integer.MIN_VALUE, Integer.MAX_VALUE}) {
            due(call + " of " + outside, ask.applyAsInt(outside), INVALID);
        }
        for (int inside : new int[] {least, greatest}) {
            due(call + " of " + inside + " is refused", ask.applyAsInt(inside) == INVALID ? 1 : 0, 0);
        }
    }

    static void finish() {
        System.out.println(wrong == 0 ? "all answers are as due" : wrong + " answers are not as due");
        if (wrong != 0) {
            System.exit(1);
        }
    }

    static int write(FiberTrace fiber, String text) {
        int length = 0;
        for (int i = 0; i < text.length(); i++) {
            length = fiber.type(text.charAt(i));
        }
        return length;
    }

    static FiberTrace typed(String text) {
        FiberTrace fiber = new FiberTrace();
        write(fiber, text);
        return fiber;
    }

    static FiberTrace laid(String text) {
        FiberTrace fiber = typed(text);
        due("lay of '" + text + "' is refused", fiber.lay() < 0 ? 1 : 0, 0);
        return fiber;
    }

    /** A fiber that falls too slowly for an event, to the level behind its end. */
    static FiberTrace dark() {
        FiberTrace fiber = laid("attenuation 0;end 0;");
        for (int place = 10; place < 100; place += 10) {
            fiber.addPart(0, place, 5000, 0);
        }
        fiber.set(0, 20);
        fiber.set(7, 2000);
        return fiber;
    }

    /** A level of 50000 up to 199, without true ghosts; a loss takes one place, a reflection fades by 5000. */
    static FiberTrace flat(String parts) {
        FiberTrace fiber = laid("attenuation 0;end 0;" + parts);
        fiber.set(0, 1);
        fiber.set(1, 5000);
        fiber.set(2, 40000);
        return fiber;
    }

    static void faultIs(String text, int index, int reason, int number) {
        FiberTrace fiber = typed(text);
        due("index of '" + text + "'", fiber.fault(0), index);
        due("reason of '" + text + "'", fiber.fault(1), reason);
        due("number of '" + text + "'", fiber.fault(2), number);
        due("lay of '" + text + "'", fiber.lay(), NOT_POSSIBLE);
        due("history after '" + text + "'", fiber.count(17), 0);
    }

    static void soundIs(String text) {
        due("fault of '" + text + "'", typed(text).fault(1), NOT_FOUND);
    }
}
