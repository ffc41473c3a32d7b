/** The edges that the document names of parts and events: their section, and promises 11, 21 and 22. */
final class FindingEdges {
    private static final int NONE = Checks.NOT_FOUND;

    private FindingEdges() {
    }

    static void check() {
        toleranceOfParts();
        foundAtTheFirstPlaces();
        foundByTheEnd();
        notFoundByAGhost();
        hiddenInAnEvent();
        hiderOfAPart();
        missedParts();
        changesAreMissed();
        firstFinder();
        findingOfAPart();
        noWitness();
        countedFindings();
        unexplainedEvents();
        eventsThatAreNotCounted();
        eventsAtTheFirstPlaces();
        wrongFindings();
        leastWidth();
        greatestWidth();
        widthOfHiddenOrMissed();
        widthWithoutJoints();
        widthAlone();
        noWidth();
    }

    private static int findingBesides(int tolerance, int place) {
        FiberTrace x = Checks.flat("splice 100 300;splice " + place + " 0;");
        x.set(9, tolerance);
        return x.part(place < 100 ? 0 : 1, 4);
    }

    /** The event of the splice at 100 has this place alone. */
    private static void toleranceOfParts() {
        Checks.sentence("Parts and events", "begins at most T before or behind its place");
        for (int tolerance : new int[] {0, 1, 3, 20}) {
            if (tolerance > 0) {
                Checks.due("T before", findingBesides(tolerance, 100 + tolerance), 0);
                Checks.due("T behind", findingBesides(tolerance, 100 - tolerance), 0);
            }
            Checks.due("more than T before", findingBesides(tolerance, 101 + tolerance), 2);
            Checks.due("more than T behind", findingBesides(tolerance, 99 - tolerance), 2);
        }
        FiberTrace x = Checks.flat("splice 100 300;connector 120 0 3000;");
        x.set(9, 0);
        Checks.row("with T 0", n -> x.part(n, 4), 0, 0, 0);
    }

    private static void foundAtTheFirstPlaces() {
        Checks.sentence("Parts and events", "A splice or connector of the link is found if some event");
        FiberTrace x = Checks.flat("connector 1 300 3000;splice 4 0;splice 5 0;");
        Checks.row("finding", n -> x.part(n, 4), 0, 0, 0, 2);
        Checks.row("event", n -> x.part(n, 5), 0, 0, 0, NONE);
        x.set(9, 20);
        Checks.row("finding with T 20", n -> x.part(n, 4), 0, 0, 0, 0);
        Checks.row("event with T 20", n -> x.part(n, 5), 0, 0, 0, 0);
        Checks.due("without an event", Checks.flat("splice 1 0;").part(0, 4), 2);
    }

    private static void foundByTheEnd() {
        Checks.sentence("Parts and events", "(the end, too)");
        FiberTrace x = Checks.flat("splice 196 0;splice 197 0;splice 199 0;");
        Checks.due("the end", x.event(0, 4), 3);
        Checks.row("finding", n -> x.part(n, 4), 0, 2, 0, 0);
        Checks.row("event", n -> x.part(n, 5), 0, NONE, 0, 0);
    }

    /** The reader takes the connector at 80 for a ghost of the other two. */
    private static void notFoundByAGhost() {
        Checks.sentence("Parts and events", "is found if some event that is no ghost");
        FiberTrace x = Checks.flat("connector 40 0 3000;connector 60 0 3000;connector 80 0 3000;splice 82 0;splice 79 0;");
        Checks.row("kind", n -> x.event(n, 4), 0, 1, 1, 2, 3);
        Checks.row("finding", n -> x.part(n, 4), 0, 0, 0, 2, 1, 2);
        Checks.row("event", n -> x.part(n, 5), 0, 0, 1, NONE, 2, NONE);
        x.removePart(0);
        Checks.row("finding with no ghost", n -> x.part(n, 4), 0, 0, 0, 0, 0);
    }

    /** The connector's event goes from 100 to 114, the one of the end from 200 to 200. */
    private static void hiddenInAnEvent() {
        Checks.sentence("Parts and events", "Otherwise it is hidden if its place lies in an event (from its begin to its end);");
        FiberTrace x = Checks.laid("attenuation 0;end 0;connector 100 0 14000;splice 114 0;splice 115 0;splice 99 0;");
        x.set(9, 0);
        Checks.row("event", what -> x.event(0, what), 0, 100, 114);
        Checks.row("place", n -> x.part(n, 1), 0, 99, 100, 114, 115);
        Checks.row("finding", n -> x.part(n, 4), 0, 2, 0, 1, 2);
        FiberTrace y = Checks.laid("attenuation 0;end 0;connector 100 0 14000;splice 101 0;splice 103 0;splice 104 0;");
        Checks.row("finding with T 3", n -> y.part(n, 4), 0, 0, 0, 0, 1);
        y.set(9, 0);
        Checks.row("finding with T 0", n -> y.part(n, 4), 0, 0, 1, 1, 1);
        FiberTrace ghost = Checks.laid("attenuation 0;end 0;connector 40 0 12000;connector 60 0 12000;splice 80 0;");
        Checks.due("at a ghost's begin", ghost.part(2, 4), 1);
    }

    private static void hiderOfAPart() {
        Checks.sentence("Parts and events", "the hider is the first such event.");
        FiberTrace x = Checks.laid("attenuation 0;end 0;splice 20 500;connector 40 0 9000;splice 45 0;");
        x.addPart(1, 60, 0, 9000);
        x.addPart(0, 65, 0, 0);
        Checks.row("finding", n -> x.part(n, 4), 0, 0, 0, 1, 0, 1);
        Checks.row("event", n -> x.part(n, 5), 0, 0, 1, 1, 2, 2);
        FiberTrace first = Checks.laid("attenuation 0;end 0;connector 1 0 9000;splice 9 0;");
        Checks.due("hidden by the event 0", first.part(1, 4), 1);
        Checks.due("its hider", first.part(1, 5), 0);
    }

    private static void missedParts() {
        Checks.sentence("Parts and events", "Otherwise it is missed.");
        FiberTrace x = Checks.flat("splice 1 0;splice 60 60;splice 80 61;splice 199 0;");
        x.set(9, 0);
        Checks.row("finding", n -> x.part(n, 4), 0, 2, 2, 0, 2);
        FiberTrace dark = Checks.dark();
        Checks.row("finding without events", n -> dark.part(n, 4), 0, 2, 2, 2, 2, 2, 2, 2, 2, 2);
    }

    private static void changesAreMissed() {
        Checks.sentence("Parts and events", "A change is always told as missed.");
        FiberTrace x = Checks.laid("end 0;change 60 50;change 62 9;change 99 8;connector 100 0 14000;change 105 7;");
        x.set(7, 49);
        Checks.row("event(0)", what -> x.event(0, what), 0, 61, 62);
        Checks.row("event(1)", what -> x.event(1, what), 0, 100, 114);
        Checks.row("place", n -> x.part(n, 1), 0, 60, 62, 99, 100, 105);
        Checks.row("finding", n -> x.part(n, 4), 0, 2, 2, 2, 0, 2);
        Checks.row("event", n -> x.part(n, 5), 0, NONE, NONE, NONE, 1, NONE);
        Checks.row("findings", x::findings, 0, 1, 0, 0);
    }

    private static void firstFinder() {
        Checks.sentence("11", "5: the event by which it is found (the first one), or the hider");
        FiberTrace x = Checks.flat("splice 60 300;splice 62 300;splice 65 300;splice 66 0;");
        Checks.row("begin", n -> x.event(n, 0), 0, 60, 62, 65, 200);
        Checks.row("event", n -> x.part(n, 5), 0, 0, 0, 1, 2);
        x.set(9, 20);
        Checks.row("event with a greater T", n -> x.part(n, 5), 0, 0, 0, 0, 0);
        x.set(9, 0);
        Checks.row("event with T 0", n -> x.part(n, 5), 0, 0, 1, 2, NONE);
    }

    private static void findingOfAPart() {
        Checks.sentence("11", "4: 0 if it is found, 1 if it is hidden, 2 if it is missed");
        FiberTrace x = Checks.laid("attenuation 0;end 0;connector 40 0 9000;splice 45 0;splice 60 0;change 61 0;");
        Checks.row("finding", n -> x.part(n, 4), 0, 0, 1, 2, 2, Checks.INVALID);
    }

    private static void noWitness() {
        Checks.sentence("11", "NOT_FOUND for 5 if it is missed.");
        FiberTrace x = Checks.laid("attenuation 0;end 0;connector 40 0 9000;splice 45 0;splice 60 0;change 61 0;");
        Checks.row("event", n -> x.part(n, 5), 0, 0, 0, NONE, NONE, Checks.INVALID);
    }

    private static void findingsAre(FiberTrace x, int found, int hidden, int missed, int unexplained) {
        Checks.row("findings", x::findings, 0, found, hidden, missed, unexplained);
    }

    private static void countedFindings() {
        Checks.sentence("21", "0, 1 and 2: splices and connectors that are found, hidden, and missed");
        findingsAre(Checks.laid("end 0;"), 0, 0, 0, 0);
        findingsAre(Checks.flat("change 60 0;change 61 5;"), 0, 0, 0, 0);
        findingsAre(Checks.laid("attenuation 0;end 0;connector 40 0 9000;splice 45 0;splice 60 0;change 61 0;"), 1, 1, 1, 0);
        FiberTrace all = new FiberTrace();
        for (int place = 10; place <= 190; place += 20) {
            all.addPart(0, place, 300, 0);
        }
        Checks.due("ten found", all.findings(0), 10);
        all.set(7, 2000);
        Checks.due("ten missed", all.findings(2), 10);
    }

    /** The units of the attenuation 50 make an event from 61 to 70 that no part explains. */
    private static int unexplained(int tolerance, int place) {
        FiberTrace x = Checks.flat("change 60 50;change 70 0;splice " + place + " 0;");
        x.set(7, 49);
        x.set(9, tolerance);
        Checks.row("event(0)", what -> x.event(0, what), 0, 61, 70);
        return x.findings(3);
    }

    private static void unexplainedEvents() {
        Checks.sentence("21", "begin more than T before or behind all splices and connectors");
        for (int tolerance : new int[] {2, 3, 20}) {
            Checks.due("T before", unexplained(tolerance, 61 + tolerance), 0);
            Checks.due("T behind", unexplained(tolerance, 61 - tolerance), 0);
            Checks.due("more than T before", unexplained(tolerance, 62 + tolerance), 1);
            Checks.due("more than T behind", unexplained(tolerance, 60 - tolerance), 1);
        }
        Checks.due("with T 0", unexplained(0, 61), 0);
        Checks.due("with T 0, before", unexplained(0, 62), 1);
        FiberTrace x = Checks.flat("change 60 50;change 70 0;");
        x.set(7, 49);
        Checks.due("changes explain nothing", x.findings(3), 1);
    }

    /** The ghost at 80 needs no part of its own; a loss of 1 makes it another reflective event. */
    private static void eventsThatAreNotCounted() {
        Checks.sentence("21", "3: events that are no ghosts, and not the end");
        FiberTrace x = Checks.laid("attenuation 0;end 0;connector 40 0 12000;connector 60 0 12000;");
        x.set(9, 0);
        x.set(10, 0);
        findingsAre(x, 2, 0, 0, 0);
        x.addPart(0, 82, 1, 0);
        Checks.due("kind", x.event(2, 4), 1);
        findingsAre(x, 2, 1, 0, 1);
        FiberTrace end = Checks.laid("end 0;");
        Checks.due("the end", end.findings(3), 0);
        end.set(8, 5000);
        Checks.due("the same as a plain event", end.findings(3), 1);
    }

    private static void eventsAtTheFirstPlaces() {
        Checks.sentence("21", "all splices and connectors");
        FiberTrace x = Checks.laid("attenuation 50;");
        x.set(7, 49);
        x.set(9, 20);
        Checks.due("begin", x.event(0, 0), 1);
        Checks.due("without a part", x.findings(3), 1);
        x.addPart(0, 22, 0, 0);
        Checks.due("with one too far behind", x.findings(3), 1);
        x.addPart(0, 21, 0, 0);
        Checks.due("with one near enough", x.findings(3), 0);
        x.removePart(0);
        x.removePart(0);
        Checks.due("without them again", x.findings(3), 1);
    }

    private static void wrongFindings() {
        Checks.sentence("21", "INVALID_ARGUMENT if what is out of range.");
        Checks.onlyWithin("what", new FiberTrace()::findings, 0, 3);
        Checks.onlyWithin("what without events", Checks.dark()::findings, 0, 3);
    }

    private static FiberTrace with(int step, int tolerance, String parts) {
        FiberTrace x = Checks.laid(parts);
        x.set(7, step);
        x.set(9, tolerance);
        return x;
    }

    /** A pulse of 2 reaches the place behind each connector, and there the event of the first one ends. */
    private static void leastWidth() {
        Checks.sentence("22", "Finds the least width W, 1 to 20, with which no splice or connector is hidden or missed");
        Checks.due("one splice", Checks.laid("splice 60 5000;").widthFor(), 1);
        FiberTrace x = Checks.laid("connector 13 0 5000;connector 17 0 5000;");
        int least = x.widthFor();
        Checks.due("least", least, 2);
        for (int width = 1; width <= least; width++) {
            x.set(0, width);
            Checks.due("found with " + width, x.findings(0), width < least ? 1 : 2);
        }
    }

    /**
     * The wide pulse falls by 50 + 10 a place, which is more than 59. At 26 and 28 the gain takes 1 off it,
     * so the event of the splice ends at 25 and the next one begins at 27. With 19 it falls by 62 or 63.
     */
    private static void greatestWidth() {
        Checks.sentence("22", "the least width W, 1 to 20");
        FiberTrace x = with(59, 3, "splice 20 1000;splice 25 -10;");
        Checks.due("width", x.widthFor(), 20);
        for (int width = 1; width < 20; width++) {
            x.set(0, width);
            Checks.due("found with " + width, x.findings(0), 1);
        }
        x.set(0, 20);
        Checks.row("begin", n -> x.event(n, 0), 0, 20, 27);
        Checks.due("found with 20", x.findings(0), 2);
    }

    private static void widthOfHiddenOrMissed() {
        Checks.sentence("22", "no splice or connector is hidden or missed");
        FiberTrace hidden = Checks.laid("connector 60 0 20000;splice 66 0;");
        Checks.row("hidden", hidden::findings, 0, 1, 1, 0);
        Checks.due("width", hidden.widthFor(), NONE);
        FiberTrace missed = Checks.laid("connector 60 0 2000;splice 90 0;");
        Checks.row("missed", missed::findings, 0, 1, 0, 1);
        Checks.due("width", missed.widthFor(), NONE);
        FiberTrace both = Checks.laid("connector 60 0 2000;splice 90 300;");
        Checks.due("width", both.widthFor(), 1);
    }

    private static void widthWithoutJoints() {
        Checks.sentence("22", "no splice or connector");
        Checks.due("without parts", new FiberTrace().widthFor(), 1);
        Checks.due("changes alone", Checks.laid("change 60 50;change 70 0;").widthFor(), 1);
        Checks.due("without events", Checks.laid("attenuation 0;end 0;change 60 5;").widthFor(), 1);
    }

    private static void widthAlone() {
        Checks.sentence("22", "all else being as it is");
        FiberTrace x = Checks.laid("connector 13 0 5000;connector 17 0 5000;");
        x.set(0, 20);
        Checks.due("ahead of it", x.sample(32, 2), 5000);
        Checks.due("width", x.widthFor(), 2);
        Checks.due("W", x.count(0), 20);
        Checks.due("history", x.count(17), 2);
        Checks.due("peak", x.sample(32, 2), 5000);
        Checks.due("events", x.event(0, 1), 32);
        x.set(9, 4);
        Checks.due("with a greater T", x.widthFor(), 1);
    }

    /**
     * With 21 it would be found: it falls by 82 + 10 a place, at 33 by 90, so the next event begins at 34.
     * With 20 it falls by 96 or 97, and by 94 or more with the gain.
     */
    private static void noWidth() {
        Checks.sentence("22", "NOT_FOUND if there is none.");
        Checks.due("21 would do", with(90, 2, "splice 28 1723;splice 32 -34;").widthFor(), NONE);
        Checks.due("a splice without a loss", Checks.laid("splice 60 0;").widthFor(), NONE);
    }
}
