import java.util.Random;

/** Many runs of 512 calls, each answer held against the model's. */
public final class RandomRunsTest {
    private static final int RUNS = 90;
    private static final int CALLS = 512;
    private static final int[] EDGES = {-1, 0, Integer.MIN_VALUE, Integer.MAX_VALUE, 1000001, -1000001};
    private static final String[] ITEMS = {"length", "attenuation", "end", "splice", "connector", "change"};
    private static final String MISTYPED = " ;-0x9Se_";

    private final Random random;
    private final FiberTrace fiber = new FiberTrace();
    private final Model model = new Model();
    private final StringBuilder log = new StringBuilder();
    private int calls = 0;

    private RandomRunsTest(int seed) {
        random = new Random(seed);
    }

    public static void main(String[] args) {
        int wrong = 0;
        for (int seed = 0; seed < RUNS && wrong < 5; seed++) {
            if (!new RandomRunsTest(seed).run(seed)) {
                wrong++;
            }
        }
        System.out.println(wrong == 0 ? "all answers are the model's" : wrong + " runs went wrong");
        if (wrong != 0) {
            System.exit(1);
        }
    }

    /** Ghosts that are read need near connectors, little echo loss and a patient reader. */
    private boolean prepareGhosts() {
        int echoLoss = random.nextInt(4000);
        int patience = 200 + random.nextInt(1800);
        int recovery = 1500 + random.nextInt(3500);
        boolean sound = same("set(2, " + echoLoss + ")", fiber.set(2, echoLoss), model.set(2, echoLoss))
                && same("set(10, " + patience + ")", fiber.set(10, patience), model.set(10, patience))
                && same("set(1, " + recovery + ")", fiber.set(1, recovery), model.set(1, recovery));
        for (int i = 0; i < 2 + random.nextInt(3) && sound; i++) {
            int place = 10 + random.nextInt(90);
            int loss = random.nextInt(100);
            int height = 3000 + random.nextInt(6000);
            sound = same("addPart(1, " + place + ", " + loss + ", " + height + ")",
                    fiber.addPart(1, place, loss, height), model.addPart(1, place, loss, height));
        }
        return sound;
    }

    private boolean run(int seed) {
        while (calls < CALLS) {
            boolean sound = seed % 3 == 0 && calls % 100 == 0 ? prepareGhosts() : step(seed);
            if (!sound) {
                System.out.println("run " + seed + ":" + log);
                return false;
            }
        }
        return true;
    }

    private int some(int least, int greatest) {
        if (random.nextInt(60) == 0) {
            return EDGES[random.nextInt(EDGES.length)];
        }
        if (random.nextInt(12) == 0) {
            return random.nextBoolean() ? least - random.nextInt(2) : greatest + random.nextInt(2);
        }
        return least + random.nextInt(greatest - least + 1);
    }

    private boolean same(String call, int got, int want) {
        calls++;
        log.append("\n  ").append(call).append(" = ").append(got);
        if (got != want) {
            log.append(", the model says ").append(want);
        }
        return got == want;
    }

    private boolean step(int seed) {
        int length = model.count(11);
        switch (random.nextInt(seed % 2 == 0 ? 30 : 24)) {
            case 0: return typeText();
            case 1: case 2: case 3: case 4: return addPart(length);
            case 5: return random.nextInt(3) > 0 || removePart();
            case 6: case 7: return set();
            case 8: return random.nextInt(2) > 0 || same("undo()", fiber.undo(), model.undo());
            case 9: return same("keep()", fiber.keep(), model.keep());
            case 10: return counts();
            case 11: return part();
            case 12: return lineLoss(length);
            case 13: case 14: return sample(length);
            case 15: return echo();
            case 16: return pulsesFor();
            case 17: case 18: return event();
            case 19: return total();
            case 20: return eventAt(length);
            case 21: return same("worst()", fiber.worst(), model.worst()) && findings();
            case 22: return random.nextInt(3) > 0 || same("widthFor()", fiber.widthFor(), model.widthFor());
            case 23: return compare();
            default: return event();
        }
    }

    private boolean typeOne(int c) {
        return same("type(" + c + ")", fiber.type(c), model.type(c));
    }

    private String number() {
        int[] usual = {0, 1, 5, 10, 49, 50, 51, 60, 80, 100, 199, 200, 400, 401, 1000, 5000, 12000, 20000, 20001};
        String digits = String.valueOf(usual[random.nextInt(usual.length)]);
        if (random.nextInt(15) == 0) {
            digits = "0".repeat(random.nextInt(5)) + digits;
        }
        return random.nextInt(20) == 0 ? "-" + digits : digits;
    }

    private boolean typeText() {
        if (random.nextInt(3) == 0 && !same("clearText()", fiber.clearText(), model.clearText())) {
            return false;
        }
        int items = random.nextInt(4);
        for (int i = 0; i < items; i++) {
            String item = item();
            for (int k = 0; k < item.length(); k++) {
                if (!typeOne(item.charAt(k))) {
                    return false;
                }
            }
            for (int what = 0; what < 3; what++) {
                if (!same("fault(" + what + ")", fiber.fault(what), model.fault(what))) {
                    return false;
                }
            }
        }
        int c = some(32, 126);
        int what = some(0, 2);
        return (random.nextInt(8) > 0 || typeOne(c)) && same("fault(" + what + ")", fiber.fault(what), model.fault(what))
                && same("lay()", fiber.lay(), model.lay());
    }

    private String item() {
        int word = random.nextInt(6);
        StringBuilder item = new StringBuilder(ITEMS[word]);
        int numbers = word < 3 ? 1 : word == 4 ? 3 : 2;
        for (int k = 0; k < numbers; k++) {
            item.append(' ').append(k == 0 && word > 2 ? String.valueOf(1 + random.nextInt(60)) : number());
        }
        item.append(';');
        if (random.nextInt(12) == 0) {
            item.insert(ITEMS[word].length(), MISTYPED.charAt(random.nextInt(MISTYPED.length())));
        }
        if (random.nextInt(10) == 0) {
            item.setCharAt(random.nextInt(item.length()), MISTYPED.charAt(random.nextInt(MISTYPED.length())));
        }
        if (random.nextInt(15) == 0) {
            item.insert(random.nextInt(item.length()), MISTYPED.charAt(random.nextInt(MISTYPED.length())));
        }
        return item.toString();
    }

    private boolean addPart(int length) {
        int kind = some(0, 2);
        int place = some(1, length - 1);
        int loss = kind == 2 ? some(0, 50) : random.nextBoolean() ? some(-500, 500) : some(0, 5000);
        int reflection = kind == 1 ? some(1, 20000) : random.nextInt(20) == 0 ? 1 : 0;
        return same("addPart(" + kind + ", " + place + ", " + loss + ", " + reflection + ")",
                fiber.addPart(kind, place, loss, reflection), model.addPart(kind, place, loss, reflection));
    }

    private boolean removePart() {
        int part = some(0, Math.max(1, model.count(14)) - 1);
        return same("removePart(" + part + ")", fiber.removePart(part), model.removePart(part));
    }

    private boolean set() {
        int what = some(0, 10);
        int index = Math.floorMod(what, 11);
        int greatest = Model.GREATEST[index];
        int value = some(Model.LEAST[index], random.nextInt(3) == 0 ? greatest : Math.max(Model.LEAST[index], greatest / 8));
        return same("set(" + what + ", " + value + ")", fiber.set(what, value), model.set(what, value));
    }

    private boolean counts() {
        for (int what = -1; what < 20; what++) {
            if (fiber.count(what) != model.count(what)) {
                return same("count(" + what + ")", fiber.count(what), model.count(what));
            }
        }
        calls++;
        return true;
    }

    private boolean part() {
        int part = some(0, Math.max(1, model.count(14)) - 1);
        int what = some(0, 5);
        return same("part(" + part + ", " + what + ")", fiber.part(part, what), model.part(part, what))
                && same("part(" + part + ", 4)", fiber.part(part, 4), model.part(part, 4))
                && same("part(" + part + ", 5)", fiber.part(part, 5), model.part(part, 5));
    }

    private boolean lineLoss(int length) {
        int place = some(0, length);
        return same("lineLoss(" + place + ")", fiber.lineLoss(place), model.lineLoss(place));
    }

    private boolean sample(int length) {
        int place = some(0, length + 59);
        int what = some(0, 3);
        return same("sample(" + place + ", " + what + ")", fiber.sample(place, what), model.sample(place, what))
                && same("sample(" + place + ", 0)", fiber.sample(place, 0), model.sample(place, 0));
    }

    private boolean echo() {
        int index = some(0, 20);
        int what = some(0, 3);
        return same("echo(" + index + ", " + what + ")", fiber.echo(index, what), model.echo(index, what));
    }

    private boolean pulsesFor() {
        int limit = some(0, random.nextBoolean() ? 400 : 60);
        return same("pulsesFor(" + limit + ")", fiber.pulsesFor(limit), model.pulsesFor(limit));
    }

    private boolean event() {
        int event = some(0, Math.max(1, model.events()) - 1);
        for (int what = 0; what < 8; what++) {
            if (fiber.event(event, what) != model.event(event, what)) {
                return same("event(" + event + ", " + what + ")", fiber.event(event, what), model.event(event, what));
            }
        }
        int what = some(0, 7);
        return same("event(" + event + ", " + what + ")", fiber.event(event, what), model.event(event, what))
                && same("events()", fiber.events(), model.events());
    }

    private boolean total() {
        int what = some(0, 7);
        return same("total(" + what + ")", fiber.total(what), model.total(what));
    }

    private boolean eventAt(int length) {
        int place = some(0, length + 59);
        return same("eventAt(" + place + ")", fiber.eventAt(place), model.eventAt(place));
    }

    private boolean findings() {
        int what = some(0, 3);
        return same("findings(" + what + ")", fiber.findings(what), model.findings(what));
    }

    private boolean compare() {
        int kept = some(0, Math.max(1, model.count(16)) - 1);
        int limit = some(0, random.nextBoolean() ? 50000 : 300);
        int what = some(0, 3);
        return same("compare(" + kept + ", " + limit + ", " + what + ")",
                fiber.compare(kept, limit, what), model.compare(kept, limit, what));
    }
}
