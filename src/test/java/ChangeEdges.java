import java.util.ArrayList;
import java.util.Arrays;
import java.util.List;
import java.util.function.ToIntFunction;

/** The edges that the document names of changes, errors and settings, and promises 1, 8, 9, 10, 23 and 24. */
final class ChangeEdges {
    private static final int INVALID = Checks.INVALID;
    private static final int NONE = Checks.NOT_FOUND;

    private ChangeEdges() {
    }

    static void check() {
        pulseSettings();
        readerSettings();
        lastCalls();
        changes();
        noChanges();
        fiveStates();
        sixthState();
        statesOfTheLink();
        statesOfSettings();
        statesOfKeptTraces();
        severalErrors();
        refusedCalls();
        constants();
        newObject();
        settingsThatAreSet();
        valuesThatAreSet();
        previousValues();
        latestState();
        textAfterUndo();
        statesThatAreLeft();
        emptyHistory();
        counts();
        countsThatChange();
        threeKeptTraces();
        numbersOfKeptTraces();
        keptTracesAfterUndo();
        placesOfBoth();
        noSuchKeptTrace();
        limits();
        moreThanTheLimit();
        numbersOfPlaces();
        greatestDifference();
        firstGreatestDifference();
        wrongComparisons();
        noDifference();
    }

    private static void setting(String section, String words, int what, int least, int greatest, int first) {
        Checks.sentence(section, words);
        Checks.due("first value", new FiberTrace().count(what), first);
        Checks.onlyWithin("value", value -> new FiberTrace().set(what, value), least, greatest);
        FiberTrace x = new FiberTrace();
        Checks.due("set the least", x.set(what, least), first);
        Checks.due("count", x.count(what), least);
        Checks.due("set less", x.set(what, least - 1), INVALID);
        Checks.due("count", x.count(what), least);
        Checks.due("set the greatest", x.set(what, greatest), least);
        Checks.due("set more", x.set(what, greatest + 1), INVALID);
        Checks.due("count", x.count(what), greatest);
        Checks.due("history", x.count(17), 2);
    }

    private static void pulseSettings() {
        setting("Trace", "0 the width W (1 to 20; 5)", 0, 1, 20, 5);
        setting("Trace", "1 the recovery D (100 to 5000; 1500)", 1, 100, 5000, 1500);
        setting("Trace", "2 the echo loss G (0 to 40000; 9000)", 2, 0, 40000, 9000);
        setting("Trace", "3 the noise A (0 to 400; 0)", 3, 0, 400, 0);
        setting("Trace", "4 the pulses P (1 to 32; 4)", 4, 1, 32, 4);
        setting("Trace", "5 the seed (0 to 65535; 1)", 5, 0, 65535, 1);
    }

    private static void readerSettings() {
        setting("Reading", "6 the rise R (10 to 5000; 600)", 6, 10, 5000, 600);
        setting("Reading", "7 the step S (5 to 2000; 60)", 7, 5, 2000, 60);
        setting("Reading", "8 the floor E (0 to 40000; 8000)", 8, 0, 40000, 8000);
        setting("Reading", "9 the tolerance T (0 to 20; 3)", 9, 0, 20, 3);
        setting("Reading", "10 the ghost loss Q (0 to 2000; 150)", 10, 0, 2000, 150);
    }

    private static void lastCalls() {
        Checks.sentence("What it is", "An object is used for at most 512 calls after it has been made;");
        FiberTrace sets = new FiberTrace();
        for (int call = 1; call <= 511; call++) {
            Checks.due("set", sets.set(5, call + 1), call);
        }
        Checks.due("the 512th call", sets.undo(), 4);
        FiberTrace keeps = new FiberTrace();
        for (int call = 1; call <= 255; call++) {
            keeps.set(3, call % 2);
            Checks.due("keep", keeps.keep(), Math.min(call, 3));
        }
        Checks.due("the 511th call", keeps.compare(0, 0, 1), 0);
        Checks.due("the 512th call", keeps.compare(1, 0, 2), 1);
        FiberTrace types = new FiberTrace();
        for (int call = 1; call <= 511; call++) {
            Checks.due("type", types.type('a'), call <= 120 ? call : Checks.LIMIT);
        }
        Checks.due("the 512th call", types.clearText(), 120);
    }

    private static void changes() {
        Checks.sentence("Changes and errors", "The changes are the calls of lay, addPart, removePart, set and keep that return no error.");
        FiberTrace x = Checks.typed("end 5;");
        x.lay();
        Checks.due("after lay", x.count(17), 1);
        x.addPart(2, 60, 5, 0);
        Checks.due("after addPart", x.count(17), 2);
        x.removePart(0);
        Checks.due("after removePart", x.count(17), 3);
        x.set(0, 6);
        Checks.due("after set", x.count(17), 4);
        x.keep();
        Checks.due("after keep", x.count(17), 5);
        FiberTrace same = new FiberTrace();
        same.lay();
        same.set(0, 5);
        Checks.due("without a difference", same.count(17), 2);
    }

    private static void noChanges() {
        Checks.sentence("Changes and errors", "that return no error");
        FiberTrace x = Checks.typed("splice 60 5;");
        x.lay();
        x.keep();
        x.undo();
        for (ToIntFunction<FiberTrace> call : questions()) {
            call.applyAsInt(x);
            Checks.due("history after a question", x.count(17), 1);
        }
        for (ToIntFunction<FiberTrace> call : refusals()) {
            call.applyAsInt(x);
            Checks.due("history after a refusal", x.count(17), 1);
        }
        x.clearText();
        x.type('a');
        Checks.due("history after typing", x.count(17), 1);
        Checks.due("undo", x.undo(), 0);
        Checks.due("is no change", x.count(17), 0);
    }

    private static List<ToIntFunction<FiberTrace>> questions() {
        return List.of(x -> x.fault(0), x -> x.count(0), x -> x.part(0, 4), x -> x.lineLoss(9), x -> x.sample(9, 0),
                x -> x.echo(0, 0), x -> x.pulsesFor(9), FiberTrace::events, x -> x.event(0, 0), x -> x.total(0),
                x -> x.eventAt(9), FiberTrace::worst, x -> x.findings(0), FiberTrace::widthFor, x -> x.compare(0, 9, 0));
    }

    private static void fiveStates() {
        Checks.sentence("Changes and errors", "A history of at most 5 states is kept");
        FiberTrace x = new FiberTrace();
        for (int changes = 0; changes <= 12; changes++) {
            Checks.due("after " + changes, x.count(17), Math.min(changes, 5));
            x.set(5, changes);
        }
    }

    private static void sixthState() {
        Checks.sentence("Changes and errors", "if there are 6 states then, the oldest one is dropped");
        for (int changes = 5; changes <= 13; changes++) {
            FiberTrace x = new FiberTrace();
            x.set(5, 100);
            for (int change = 1; change <= changes; change++) {
                x.set(5, 100 + change);
            }
            for (int back = 1; back <= 5; back++) {
                Checks.due("states left", x.undo(), 5 - back);
                Checks.due("seed", x.count(5), 100 + changes - back);
            }
            Checks.due("a sixth", x.undo(), Checks.NOT_POSSIBLE);
            Checks.due("seed", x.count(5), 100 + changes - 5);
        }
    }

    private static void statesOfTheLink() {
        Checks.sentence("Changes and errors", "each change records link");
        FiberTrace x = Checks.laid("length 60;attenuation 7;end 8;splice 5 6;");
        x.clearText();
        x.addPart(1, 6, 7, 8);
        x.removePart(0);
        x.lay();
        Checks.row("count", x::count, 11, 200, 10, 12000, 0);
        x.undo();
        Checks.row("count", x::count, 11, 60, 7, 8, 1);
        Checks.row("part", what -> x.part(0, what), 0, 1, 6, 7, 8);
        x.undo();
        Checks.row("place", n -> x.part(n, 1), 0, 5, 6, INVALID);
        Checks.row("loss", n -> x.part(n, 2), 0, 6, 7);
        x.undo();
        Checks.row("part", what -> x.part(0, what), 0, 0, 5, 6, 0);
        Checks.due("parts", x.count(14), 1);
        x.undo();
        Checks.row("count", x::count, 11, 200, 10, 12000, 0);
    }

    private static void statesOfSettings() {
        Checks.sentence("Changes and errors", "records link, settings");
        int[] values = {6, 1600, 9100, 100, 5, 2, 700, 70, 8100, 4, 160};
        for (int what = 0; what <= 10; what++) {
            FiberTrace x = new FiberTrace();
            int first = x.set(what, values[what]);
            x.addPart(0, 60, 5, 0);
            x.undo();
            Checks.due("count(" + what + ")", x.count(what), values[what]);
            x.undo();
            Checks.due("count(" + what + ")", x.count(what), first);
        }
        FiberTrace y = new FiberTrace();
        y.set(3, 100);
        y.set(4, 1);
        Checks.due("noise", y.sample(0, 3), 49);
        y.undo();
        y.undo();
        Checks.due("no noise", y.sample(0, 3), 0);
    }

    /** Keeps the traces of these seeds, one after the other. */
    private static FiberTrace kept(int... seeds) {
        return keptOf(200, seeds);
    }

    private static FiberTrace keptOf(int length, int... seeds) {
        FiberTrace x = Checks.laid("length " + length + ";");
        x.set(3, 400);
        x.set(4, 1);
        for (int seed : seeds) {
            x.set(5, seed);
            x.keep();
        }
        return x;
    }

    /** The traces of these seeds are kept: with its seed set, the present trace has no difference from one. */
    private static void keptAre(FiberTrace x, int... seeds) {
        Checks.due("kept traces", x.count(16), seeds.length);
        for (int n = 0; n < seeds.length; n++) {
            x.set(5, seeds[n]);
            Checks.due("differences of " + n, x.compare(n, 0, 1), 0);
            x.undo();
        }
        Checks.due("one more", x.compare(seeds.length, 0, 1), INVALID);
    }

    private static void statesOfKeptTraces() {
        Checks.sentence("Changes and errors", "and kept traces before it");
        FiberTrace x = kept(1, 2, 3);
        x.keep();
        x.keep();
        x.undo();
        x.undo();
        keptAre(x, 1, 2, 3);
        x.undo();
        keptAre(x, 1, 2);
    }

    private static void severalErrors() {
        Checks.sentence("Changes and errors", "If several errors apply to a call, INVALID_ARGUMENT is returned rather than"
                + " NOT_POSSIBLE, NOT_POSSIBLE rather than LIMIT_REACHED, and LIMIT_REACHED rather than NOT_FOUND.");
        FiberTrace full = busy();
        Checks.due("a full text", full.type(127), INVALID);
        Checks.due("10 parts and a part there", full.addPart(0, 1, 5, 0), Checks.NOT_POSSIBLE);
        Checks.due("the same, and a wrong loss", full.addPart(0, 1, 5001, 0), INVALID);
        Checks.due("10 parts and a wrong kind", full.addPart(3, 50, 5, 0), INVALID);
        FiberTrace empty = Checks.dark();
        Checks.due("no fault", empty.fault(3), INVALID);
        Checks.due("no ghost", empty.echo(-1, 0), INVALID);
        Checks.due("no ghost", empty.echo(0, 4), INVALID);
        Checks.due("no event", empty.event(0, 6), INVALID);
        Checks.due("no event", empty.eventAt(260), INVALID);
        Checks.due("a missed part", empty.part(0, 6), INVALID);
        Checks.due("no kept trace", empty.compare(0, 0, 0), INVALID);
        empty.keep();
        Checks.due("no difference", empty.compare(0, 0, 0), NONE);
        Checks.due("no difference", empty.compare(0, 50001, 0), INVALID);
        Checks.due("no pulses", kept().pulsesFor(401), INVALID);
    }

    /** A full text with a fault, ten parts, three kept traces and five states. */
    private static FiberTrace busy() {
        FiberTrace x = Checks.typed("length 100;end 20000;" + "x".repeat(99));
        for (int place = 1; place <= 8; place++) {
            x.addPart(2, place, place, 0);
        }
        x.addPart(1, 60, 500, 9000);
        x.addPart(0, 90, 0, 0);
        x.set(2, 0);
        x.set(3, 50);
        x.keep();
        x.set(5, 7);
        x.keep();
        x.keep();
        return x;
    }

    /** Calls that are refused in every state with a link of the length 200. */
    private static List<ToIntFunction<FiberTrace>> refusals() {
        return List.of(x -> x.type(31), x -> x.type(127), x -> x.fault(-1), x -> x.fault(3), x -> x.addPart(3, 50, 5, 0),
                x -> x.addPart(0, 200, 5, 0), x -> x.addPart(0, 50, 5001, 0), x -> x.addPart(1, 50, 5, 0),
                x -> x.removePart(-1), x -> x.removePart(10), x -> x.set(-1, 0), x -> x.set(11, 0), x -> x.set(0, 0),
                x -> x.set(0, 21), x -> x.count(-1), x -> x.count(19), x -> x.part(-1, 0), x -> x.part(10, 0),
                x -> x.part(0, 6), x -> x.lineLoss(-1), x -> x.lineLoss(201), x -> x.sample(-1, 0), x -> x.sample(260, 0),
                x -> x.sample(0, 4), x -> x.echo(-1, 0), x -> x.echo(0, 4), x -> x.echo(99, 0), x -> x.pulsesFor(-1),
                x -> x.pulsesFor(401), x -> x.event(-1, 0), x -> x.event(30, 0), x -> x.event(0, 8), x -> x.total(8),
                x -> x.eventAt(-1), x -> x.eventAt(260), x -> x.eventAt(0), x -> x.findings(4), x -> x.compare(3, 0, 0),
                x -> x.compare(0, -1, 0), x -> x.compare(0, 50001, 0), x -> x.compare(0, 0, 4));
    }

    /** Those, and more that are refused in the state of busy. */
    private static List<ToIntFunction<FiberTrace>> busyRefusals() {
        List<ToIntFunction<FiberTrace>> calls = new ArrayList<>(refusals());
        calls.addAll(List.of(x -> x.type('a'), FiberTrace::lay, x -> x.addPart(0, 60, 5, 0), x -> x.addPart(0, 50, 5, 0),
                x -> x.part(0, 5), x -> x.pulsesFor(0), x -> x.event(0, 6), FiberTrace::widthFor, x -> x.compare(2, 0, 0)));
        return calls;
    }

    private static List<Integer> state(FiberTrace x) {
        List<Integer> answers = new ArrayList<>();
        for (int what = 0; what <= 18; what++) {
            answers.add(x.count(what));
        }
        for (int what = 0; what <= 5; what++) {
            for (int part = 0; part < 10; part++) {
                answers.add(x.part(part, what));
            }
            answers.add(x.fault(what));
            answers.add(x.compare(what, 10, 1));
            answers.add(x.total(what));
            answers.add(x.event(0, what));
        }
        for (int place = 0; place < 260; place += 9) {
            answers.add(x.sample(place, 0));
        }
        return answers;
    }

    private static void refusedCalls() {
        Checks.sentence("Changes and errors", "A call that returns an error changes nothing.");
        int number = 0;
        for (ToIntFunction<FiberTrace> call : busyRefusals()) {
            FiberTrace x = busy();
            List<Integer> before = state(x);
            Checks.due("refusal " + number + " is refused", call.applyAsInt(x) < -1000000 ? 1 : 0, 1);
            Checks.due("refusal " + number + " changes nothing", state(x).equals(before) ? 1 : 0, 1);
            Checks.due("undo after refusal " + number, x.undo(), 4);
            Checks.due("kept after it", x.count(16), 2);
            number++;
        }
        FiberTrace none = new FiberTrace();
        Checks.due("undo", none.undo(), Checks.NOT_POSSIBLE);
        Checks.due("worst", Checks.flat("").worst(), NONE);
        Checks.due("state", state(none).equals(state(new FiberTrace())) ? 1 : 0, 1);
    }

    private static void constants() {
        Checks.sentence("Changes and errors", "- `INVALID_ARGUMENT = -1000001`");
        Checks.due("INVALID_ARGUMENT", FiberTrace.INVALID_ARGUMENT, -1000001);
        Checks.due("type(31)", new FiberTrace().type(31), -1000001);
        Checks.sentence("Changes and errors", "- `NOT_POSSIBLE = -1000002`");
        Checks.due("NOT_POSSIBLE", FiberTrace.NOT_POSSIBLE, -1000002);
        Checks.due("undo()", new FiberTrace().undo(), -1000002);
        Checks.sentence("Changes and errors", "- `LIMIT_REACHED = -1000003`");
        Checks.due("LIMIT_REACHED", FiberTrace.LIMIT_REACHED, -1000003);
        Checks.due("type('a')", Checks.typed("a".repeat(120)).type('a'), -1000003);
        Checks.sentence("Changes and errors", "- `NOT_FOUND = -1000004`");
        Checks.due("NOT_FOUND", FiberTrace.NOT_FOUND, -1000004);
        Checks.due("fault(0)", new FiberTrace().fault(0), -1000004);
    }

    private static void newObject() {
        Checks.sentence("1", "Creates a reader with a link without parts.");
        FiberTrace x = new FiberTrace();
        Checks.row("count", x::count, 0, 5, 1500, 9000, 0, 4, 1, 600, 60, 8000, 3, 150, 200, 10, 12000, 0, 260, 0, 0, 0);
        Checks.due("part(0, 0)", x.part(0, 0), INVALID);
        Checks.due("removePart(0)", x.removePart(0), INVALID);
        Checks.due("undo()", x.undo(), Checks.NOT_POSSIBLE);
        Checks.due("compare(0, 0, 1)", x.compare(0, 0, 1), INVALID);
        Checks.due("clearText()", x.clearText(), 0);
        FiberTrace other = new FiberTrace();
        other.set(0, 9);
        Checks.due("an object beside it", x.count(0), 5);
    }

    private static void settingsThatAreSet() {
        Checks.sentence("8", "`what`: 0 to 10");
        for (int value : new int[] {-1, 0, 1, 5, 10, 100, 1000}) {
            for (int what : new int[] {-1, 11, 12, Integer.MIN_VALUE, Integer.MAX_VALUE}) {
                Checks.due("set(" + what + ", " + value + ")", new FiberTrace().set(what, value), INVALID);
            }
        }
        Checks.onlyWithin("what", what -> new FiberTrace().set(what, what == 0 ? 20 : 0), 0, 10);
    }

    private static void valuesThatAreSet() {
        Checks.sentence("8", "`value`: a value in its range");
        Checks.sentence("8", "INVALID_ARGUMENT if an argument is out of range.");
        for (int what = 0; what <= 10; what++) {
            FiberTrace x = new FiberTrace();
            int first = x.count(what);
            Checks.due("set(" + what + ", -1)", x.set(what, -1), INVALID);
            Checks.due("set(" + what + ", 65536)", x.set(what, 65536), INVALID);
            Checks.due("set(" + what + ", MIN)", x.set(what, Integer.MIN_VALUE), INVALID);
            Checks.due("set(" + what + ", MAX)", x.set(what, Integer.MAX_VALUE), INVALID);
            Checks.due("count(" + what + ")", x.count(what), first);
        }
    }

    private static void previousValues() {
        Checks.sentence("8", "Returns the previous value;");
        FiberTrace x = new FiberTrace();
        Checks.due("the first value", x.set(9, 0), 3);
        Checks.due("a value of 0", x.set(9, 20), 0);
        Checks.due("the same value", x.set(9, 20), 20);
        x.undo();
        x.undo();
        Checks.due("after undo", x.set(9, 7), 0);
    }

    private static void latestState() {
        Checks.sentence("9", "Restores the latest state of the history, which is removed from it.");
        FiberTrace x = new FiberTrace();
        x.set(0, 6);
        x.set(0, 7);
        x.undo();
        Checks.due("W", x.count(0), 6);
        x.set(0, 8);
        Checks.due("history", x.count(17), 2);
        x.undo();
        Checks.due("W", x.count(0), 6);
        x.undo();
        Checks.due("W", x.count(0), 5);
    }

    private static void textAfterUndo() {
        Checks.sentence("9", "The text stays.");
        FiberTrace x = new FiberTrace();
        x.set(0, 6);
        Checks.write(x, "end 5;");
        x.undo();
        Checks.due("length of the text", x.count(18), 6);
        x.lay();
        x.clearText();
        x.undo();
        Checks.due("length of the text", x.count(18), 0);
        Checks.due("end reflection", x.count(13), 12000);
    }

    private static void statesThatAreLeft() {
        Checks.sentence("9", "Returns the number of states that are left in the history;");
        FiberTrace x = new FiberTrace();
        x.set(0, 6);
        Checks.due("undo of one", x.undo(), 0);
        for (int i = 0; i < 7; i++) {
            x.keep();
        }
        for (int left = 4; left >= 0; left--) {
            Checks.due("undo", x.undo(), left);
            Checks.due("history", x.count(17), left);
        }
    }

    private static void emptyHistory() {
        Checks.sentence("9", "NOT_POSSIBLE if it is empty.");
        FiberTrace x = new FiberTrace();
        Checks.due("undo at first", x.undo(), Checks.NOT_POSSIBLE);
        x.set(0, 6);
        x.undo();
        Checks.due("undo after undo", x.undo(), Checks.NOT_POSSIBLE);
        Checks.due("W", x.count(0), 5);
        Checks.due("set", x.set(0, 7), 5);
        Checks.due("history", x.count(17), 1);
    }

    private static void counts() {
        Checks.sentence("10", "`what`: 0 to 10: the settings; 11: the length");
        Checks.sentence("10", "INVALID_ARGUMENT if what is out of range.");
        Checks.onlyWithin("what", new FiberTrace()::count, 0, 18);
        Checks.row("count", busy()::count, 9, 3, 150, 200, 10, 12000, 10, 260, 3, 5, 120, INVALID);
    }

    private static void countsThatChange() {
        Checks.sentence("10", "14: the parts; 15: the samples of the trace; 16: the kept traces;"
                + " 17: states in the history; 18: the length of the text");
        FiberTrace x = Checks.laid("length 50;splice 5 5;");
        Checks.row("count", x::count, 14, 1, 110, 0, 1, 21);
        x.keep();
        x.clearText();
        Checks.row("count", x::count, 14, 1, 110, 1, 2, 0);
        Checks.due("samples of the longest", Checks.laid("length 400;").count(15), 460);
    }

    private static void threeKeptTraces() {
        Checks.sentence("23", "Keeps the present trace, behind the others that are kept;");
        Checks.sentence("23", "if there are 3 already, the oldest one is dropped.");
        keptAre(kept());
        keptAre(kept(1), 1);
        keptAre(kept(1, 2), 1, 2);
        keptAre(kept(1, 2, 3), 1, 2, 3);
        keptAre(kept(1, 2, 3, 4), 2, 3, 4);
        keptAre(kept(1, 2, 3, 4, 5, 6, 7, 8, 9, 10), 8, 9, 10);
        keptAre(keptOf(50, 1, 2, 3, 4), 2, 3, 4);
        keptAre(keptOf(400, 1, 2, 3, 4), 2, 3, 4);
    }

    private static void numbersOfKeptTraces() {
        Checks.sentence("23", "Returns the number of traces that are kept then.");
        FiberTrace x = new FiberTrace();
        for (int keeps = 1; keeps <= 6; keeps++) {
            Checks.due("keep", x.keep(), Math.min(keeps, 3));
        }
        FiberTrace y = new FiberTrace();
        y.keep();
        y.undo();
        Checks.due("keep after undo", y.keep(), 1);
    }

    /** Five keeps drop all three; five undos bring them back, whatever was kept. */
    private static void keptTracesAfterUndo() {
        Checks.sentence("23", "the oldest one is dropped.");
        int[] seeds = {1, 2, 3, 4, 5, 6, 7, 8, 9, 10, 11};
        for (int keeps = 3; keeps <= seeds.length; keeps++) {
            for (int length : new int[] {50, 400}) {
                FiberTrace x = keptOf(length, Arrays.copyOf(seeds, keeps));
                for (int i = 0; i < 5; i++) {
                    x.keep();
                }
                for (int left = 4; left >= 0; left--) {
                    Checks.due("undo", x.undo(), left);
                }
                keptAre(x, keeps - 2, keeps - 1, keeps);
                x.set(5, 99);
                x.keep();
                keptAre(x, keeps - 1, keeps, 99);
                x.undo();
                keptAre(x, keeps - 2, keeps - 1, keeps);
            }
        }
    }

    /** A kept trace of one length, and a present one of another; both fall from 50000 to 5000 at their ends. */
    private static FiberTrace keptAndPresent(int kept, int present) {
        FiberTrace x = Checks.laid("length " + kept + ";attenuation 0;end 0;");
        x.keep();
        x.clearText();
        Checks.write(x, "length " + present + ";attenuation 0;end 0;");
        x.lay();
        return x;
    }

    private static void placesOfBoth() {
        Checks.sentence("24", "over the places that both have");
        Checks.row("the present one is longer", what -> keptAndPresent(50, 400).compare(0, 0, what), 0, 50, 60, 45000, 50);
        Checks.row("the kept one is longer", what -> keptAndPresent(400, 50).compare(0, 0, what), 0, 50, 60, 45000, 50);
        Checks.row("by one place", what -> keptAndPresent(50, 51).compare(0, 0, what), 0, 50, 1, 45000, 50);
        Checks.row("they differ up to the last place", what -> keptAndPresent(109, 50).compare(0, 0, what), 0, 50, 59, 45000, 50);
        Checks.row("and at the last place", what -> keptAndPresent(110, 50).compare(0, 0, what), 0, 50, 60, 45000, 50);
        FiberTrace first = kept(1);
        first.set(5, 0);
        Checks.due("the place 0", first.compare(0, 0, 0), 0);
    }

    private static void noSuchKeptTrace() {
        Checks.sentence("24", "`kept`: 0 for the oldest one, and so on");
        Checks.due("none", new FiberTrace().compare(0, 0, 1), INVALID);
        Checks.onlyWithin("of one", n -> kept(1).compare(n, 0, 1), 0, 0);
        Checks.onlyWithin("of two", n -> kept(1, 2).compare(n, 0, 1), 0, 1);
        Checks.onlyWithin("of three", n -> kept(1, 2, 3).compare(n, 0, 1), 0, 2);
        Checks.onlyWithin("of four", n -> kept(1, 2, 3, 4).compare(n, 0, 1), 0, 2);
        Checks.due("the oldest is another", kept(1, 2, 3).compare(0, 0, 1) > 0 ? 1 : 0, 1);
        Checks.due("the latest is the same", kept(1, 2, 3).compare(2, 0, 1), 0);
    }

    private static void limits() {
        Checks.sentence("24", "`limit`: 0 to 50000");
        for (int what = 0; what < 4; what++) {
            int about = what;
            Checks.onlyWithin("limit", limit -> kept(1).compare(0, limit, about), 0, 50000);
        }
    }

    /** From 62 on the present trace is lower by 300, at 60 and 61 by 100 and 200. */
    private static FiberTrace lower() {
        FiberTrace x = Checks.laid("attenuation 0;end 0;");
        x.set(0, 3);
        x.keep();
        x.addPart(0, 60, 300, 0);
        return x;
    }

    private static void moreThanTheLimit() {
        Checks.sentence("24", "`what`: 0: the first place at which they differ by more than the limit");
        int[][] due = {{0, 60}, {99, 60}, {100, 61}, {199, 61}, {200, 62}, {299, 62}, {300, NONE}, {50000, NONE}};
        for (int[] row : due) {
            Checks.due("with the limit " + row[0], lower().compare(0, row[0], 0), row[1]);
        }
        FiberTrace higher = lower();
        higher.keep();
        higher.removePart(0);
        Checks.due("when it is higher", higher.compare(1, 100, 0), 61);
    }

    private static void numbersOfPlaces() {
        Checks.sentence("24", "1: how many such places there are");
        int[][] due = {{0, 140}, {99, 140}, {100, 139}, {199, 139}, {200, 138}, {299, 138}, {300, 0}, {50000, 0}};
        for (int[] row : due) {
            Checks.due("with the limit " + row[0], lower().compare(0, row[0], 1), row[1]);
        }
        Checks.due("all places", kept(1).compare(0, 0, 1), 0);
    }

    private static void greatestDifference() {
        Checks.sentence("24", "2: the greatest difference");
        for (int limit : new int[] {0, 299, 300, 50000}) {
            Checks.due("with the limit " + limit, lower().compare(0, limit, 2), 300);
        }
        FiberTrace same = kept(1);
        Checks.due("of none", same.compare(0, 0, 2), 0);
        FiberTrace once = Checks.flat("");
        once.keep();
        once.addPart(1, 199, 0, 9);
        Checks.row("at one place", what -> once.compare(0, 8, what), 0, 199, 1, 9, 199);
        Checks.row("at one place, with its limit", what -> once.compare(0, 9, what), 0, NONE, 0, 9, 199);
    }

    private static void firstGreatestDifference() {
        Checks.sentence("24", "3: the first place with the greatest difference");
        for (int limit : new int[] {0, 299, 300, 50000}) {
            Checks.due("with the limit " + limit, lower().compare(0, limit, 3), 62);
        }
        FiberTrace x = lower();
        x.keep();
        Checks.due("ahead", x.compare(0, 0, 3), 62);
        Checks.due("of no difference", x.compare(1, 0, 3), 0);
        FiberTrace twice = Checks.flat("");
        twice.keep();
        twice.addPart(1, 80, 0, 10);
        twice.addPart(1, 60, 0, 9);
        twice.addPart(1, 90, 0, 10);
        Checks.row("of two", what -> twice.compare(0, 0, what), 0, 60, 3, 10, 80);
    }

    private static void wrongComparisons() {
        Checks.sentence("24", "INVALID_ARGUMENT if limit or what is out of range, or there is no such trace");
        FiberTrace x = lower();
        Checks.onlyWithin("what", what -> x.compare(0, 0, what), 0, 3);
        for (int what = -1; what <= 4; what++) {
            Checks.due("compare(-1, 0, " + what + ")", x.compare(-1, 0, what), INVALID);
            Checks.due("compare(1, 0, " + what + ")", x.compare(1, 0, what), INVALID);
            Checks.due("compare(0, -1, " + what + ")", x.compare(0, -1, what), INVALID);
            Checks.due("compare(0, 50001, " + what + ")", x.compare(0, 50001, what), INVALID);
        }
    }

    private static void noDifference() {
        Checks.sentence("24", "NOT_FOUND for 0 if there is none.");
        Checks.row("of the same trace", what -> kept(1).compare(0, 0, what), 0, NONE, 0, 0, 0);
        Checks.row("within the limit", what -> lower().compare(0, 300, what), 0, NONE, 0, 300, 62);
    }
}
