/** Counts the answers that are not due. */
final class Checks {
    static final int INVALID = FiberTrace.INVALID_ARGUMENT;
    static final int NOT_POSSIBLE = FiberTrace.NOT_POSSIBLE;
    static final int LIMIT = FiberTrace.LIMIT_REACHED;
    static final int NOT_FOUND = FiberTrace.NOT_FOUND;

    private static int wrong = 0;

    private Checks() {
    }

    static void due(String call, long got, long want) {
        if (got != want) {
            wrong++;
            System.out.println(call + " answered " + got + ", due is " + want);
        }
    }

    static void finish() {
        System.out.println(wrong == 0 ? "all answers are as due" : wrong + " answers are not as due");
        if (wrong != 0) {
            System.exit(1);
        }
    }

    static int write(FiberTrace fiber, String text) {
        int length = 0;
        for (int i = 0; i < text.length(); i++) {
            length = fiber.type(text.charAt(i));
        }
        return length;
    }

    static FiberTrace laid(String text) {
        FiberTrace fiber = new FiberTrace();
        write(fiber, text);
        if (fiber.lay() < 0) {
            wrong++;
            System.out.println("not laid: " + text);
        }
        return fiber;
    }
}
