import java.util.TreeSet;

/** The edges that the document names of reading: its section, and promises 16 to 20. */
final class ReadingEdges {
    private static final int NONE = Checks.NOT_FOUND;
    private static final int[] CONNECTORS = {3, 6, 15, 18, 45, 48, 57};

    private ReadingEdges() {
    }

    static void check() {
        firstPlace();
        lastPlace();
        riseOfR();
        fallOfS();
        noEvent();
        firstFlatPlace();
        wholePulse();
        pulseOfAPlainEvent();
        noFlatPlace();
        noRoomForThePulse();
        lossOfAnEvent();
        heightOfAnEvent();
        heightOfAPlainEvent();
        levelOfTheFloor();
        floorOfNothing();
        readingStops();
        nextEvent();
        thirtyEvents();
        behindTheThirtieth();
        numbersOfEvents();
        sections();
        sectionsWithoutPlaces();
        sumsAddUp();
        lossOfAGhost();
        endIsNoGhost();
        twoReflectiveEvents();
        ghostsMakeNone();
        toleranceOfGhosts();
        makersWithTheLeastI();
        makersWithTheLeastJ();
        eventCounts();
        eventArguments();
        eventKinds();
        eventMakers();
        totals();
        totalsOfFewerEvents();
        totalsWithoutEvents();
        totalOfTheEnd();
        wrongTotals();
        placesOfEvents();
        wrongPlacesOfEvents();
        placesWithoutEvents();
        worstEvent();
        worstOfSeveral();
        worstOfNone();
    }

    private static void firstPlace() {
        Checks.sentence("Reading", "The reader goes from x = 1 on;");
        FiberTrace x = Checks.flat("connector 1 0 3000;");
        Checks.row("event(0)", what -> x.event(0, what), 0, 1, 2, 0, 3000, 1, 0, NONE, NONE);
        FiberTrace y = Checks.flat("splice 1 300;");
        Checks.row("event(0)", what -> y.event(0, what), 0, 1, 1, 300, 0, 0, 0, NONE, NONE);
        Checks.row("eventAt", y::eventAt, 0, NONE, 0, NONE);
    }

    /** 2 * 190 - 121 is 259, the last place; nothing is the end there. */
    private static void lastPlace() {
        Checks.sentence("Reading", "The reader goes from x = 1 on");
        FiberTrace x = Checks.flat("connector 121 0 20000;connector 190 0 20000;");
        x.set(2, 9000);
        x.set(8, 0);
        Checks.due("events", x.events(), 4);
        Checks.row("event(3)", what -> x.event(3, what), 0, 259, 259, -11000, 11000, 1, 0, NONE, NONE);
    }

    private static FiberTrace with(int what, int value, String parts) {
        FiberTrace x = Checks.flat(parts);
        x.set(what, value);
        return x;
    }

    private static void riseOfR() {
        Checks.sentence("Reading", "if v(x) - v(x - 1) is at least R, a reflective event begins at x");
        for (int rise : new int[] {100, 600, 5000}) {
            FiberTrace x = with(6, rise, "connector 100 0 " + rise + ";");
            Checks.due("begin of a rise of R", x.event(0, 0), 100);
            Checks.due("kind", x.event(0, 4), 1);
            FiberTrace y = with(6, rise, "connector 100 0 " + (rise - 1) + ";");
            Checks.due("begin of a rise of R - 1", y.event(0, 0), 101);
            Checks.due("kind", y.event(0, 4), 0);
        }
        Checks.due("a rise of the least R", with(6, 10, "connector 100 0 10;").event(0, 0), 100);
        Checks.due("a rise of less", with(6, 10, "connector 100 0 9;").event(0, 0), 200);
    }

    private static void fallOfS() {
        Checks.sentence("Reading", "otherwise, if v(x - 1) - v(x) is greater than S, a plain event begins at x");
        for (int step : new int[] {5, 60, 2000}) {
            FiberTrace x = with(7, step, "splice 60 " + (step + 1) + ";");
            Checks.due("begin of a fall of S + 1", x.event(0, 0), 60);
            Checks.due("kind", x.event(0, 4), 0);
            Checks.due("begin of a fall of S", with(7, step, "splice 60 " + step + ";").event(0, 0), 200);
        }
        Checks.due("begin of a gain", with(6, 501, "splice 60 -500;").event(0, 0), 200);
        Checks.due("a gain of R is reflective", with(6, 500, "splice 60 -500;").event(0, 4), 1);
    }

    private static void noEvent() {
        Checks.sentence("Reading", "otherwise x grows by 1.");
        FiberTrace x = Checks.laid("attenuation 50;end 0;");
        x.set(7, 50);
        Checks.due("events of a fall of S everywhere", x.events(), 1);
        Checks.due("the end", x.event(0, 0), 200);
        x.set(7, 49);
        Checks.due("events of a greater fall everywhere", x.events(), 1);
        Checks.row("the end", what -> x.event(0, what), 0, 1, 200, 45000, 0, 3, 0);
    }

    private static void firstFlatPlace() {
        Checks.sentence("Reading", "An event that begins at x ends at the first y, at least x,"
                + " for which |v(y + 1) - v(y)| is at most S");
        int[][] due = {{60, 60, 300}, {61, 61, 361}, {-60, 60, 300}, {-61, 61, 239}, {0, 60, 300}};
        for (int[] row : due) {
            FiberTrace x = Checks.flat("splice 60 300;splice 61 " + row[0] + ";");
            Checks.due("begin ahead of a loss of " + row[0], x.event(0, 0), 60);
            Checks.due("end ahead of a loss of " + row[0], x.event(0, 1), row[1]);
            Checks.due("loss ahead of a loss of " + row[0], x.event(0, 2), row[2]);
        }
        FiberTrace y = Checks.flat("splice 60 300;splice 61 100;splice 63 100;");
        Checks.due("a first flat place", y.event(0, 1), 61);
    }

    /** The peak of 1500 is gone behind the pulse, in one fall of 1500. */
    private static void wholePulse() {
        Checks.sentence("Reading", "and y is at least x + W - 1, if it is reflective");
        for (int width : new int[] {1, 2, 5, 20}) {
            FiberTrace x = Checks.laid("attenuation 0;end 0;connector 100 0 1500;");
            x.set(0, width);
            x.set(7, 1500);
            Checks.due("end with the width " + width, x.event(0, 1), 100 + width - 1);
            x.set(7, 1499);
            Checks.due("end behind the fall", x.event(0, 1), 100 + width);
        }
    }

    /** At 61 the loss of 60 and the gain of 61 go on together. */
    private static void pulseOfAPlainEvent() {
        Checks.sentence("Reading", "y is at least x + W - 1, if it is reflective");
        FiberTrace x = Checks.laid("attenuation 0;end 0;splice 60 500;splice 61 -500;");
        Checks.row("event(0)", what -> x.event(0, what), 0, 60, 60, 100, 0, 0);
    }

    /** From 205 on the peak falls by 130 a place, to 100 or 101 at 258 and 0 at 259. */
    private static void noFlatPlace() {
        Checks.sentence("Reading", "if there is none, at the last sample.");
        for (int last = 0; last < 2; last++) {
            FiberTrace x = Checks.laid("attenuation 0;end " + (7120 + last) + ";");
            x.set(1, 130);
            x.set(7, 100);
            Checks.due("begin", x.event(1, 0), 205);
            Checks.due("end", x.event(1, 1), 258 + last);
        }
    }

    /** 2 * 190 - 130 is 250, and a pulse of 20 places would reach 269. */
    private static void noRoomForThePulse() {
        Checks.sentence("Reading", "at the last sample");
        FiberTrace x = Checks.laid("attenuation 0;end 0;connector 130 0 20000;connector 190 0 20000;");
        x.set(0, 20);
        x.set(8, 0);
        Checks.row("event(2)", what -> x.event(2, what), 0, 250, 259, -11000, 11000, 1);
        Checks.due("events", x.events(), 3);
    }

    private static void lossOfAnEvent() {
        Checks.sentence("Reading", "Its loss is v(x - 1) - v(y)");
        FiberTrace x = Checks.laid("attenuation 7;end 0;splice 60 305;");
        Checks.row("event(0)", what -> x.event(0, what), 0, 60, 64, 305 + 5 * 7);
        Checks.due("a gain", Checks.flat("connector 60 0 5000;splice 61 -500;").event(0, 2), -500);
    }

    private static void heightOfAnEvent() {
        Checks.sentence("Reading", "its height the greatest one of v(x) to v(y), minus v(x - 1)");
        FiberTrace x = Checks.flat("connector 100 0 7000;");
        Checks.row("greatest at x", what -> x.event(0, what), 0, 100, 102, 0, 7000);
        FiberTrace y = Checks.flat("connector 100 0 2000;connector 101 0 7000;");
        Checks.row("greatest behind x", what -> y.event(0, what), 0, 100, 103, 0, 7000);
        FiberTrace z = Checks.flat("connector 100 0 2000;connector 101 0 9000;");
        z.set(1, 2000);
        z.set(7, 2000);
        Checks.row("greatest at y", what -> z.event(0, what), 0, 100, 101, -9000, 9000);
    }

    private static void heightOfAPlainEvent() {
        Checks.sentence("Reading", "(0 for a plain one)");
        FiberTrace x = Checks.flat("splice 60 300;splice 61 -500;");
        Checks.row("event(0)", what -> x.event(0, what), 0, 60, 61, -200, 0, 0);
    }

    private static void levelOfTheFloor() {
        Checks.sentence("Reading", "If v(y) is less than E, it is the end");
        FiberTrace x = Checks.flat("splice 10 5000;splice 20 5000;connector 30 5000 900;");
        x.set(8, 35000);
        Checks.row("kind with E", n -> x.event(n, 4), 0, 0, 0, 0, 3, Checks.INVALID);
        x.set(8, 35001);
        Checks.row("kind with E + 1", n -> x.event(n, 4), 0, 0, 0, 3, Checks.INVALID);
        x.set(8, 40000);
        Checks.row("kind with the greatest E", n -> x.event(n, 4), 0, 0, 0, 3, Checks.INVALID);
    }

    /** Ten losses of 5000 leave 0, or -100; from the fiber's end on the level is 5000. */
    private static void floorOfNothing() {
        Checks.sentence("Reading", "If v(y) is less than E");
        FiberTrace zero = Checks.flat("");
        FiberTrace less = Checks.laid("attenuation 1;end 0;");
        less.set(0, 1);
        for (int place = 10; place <= 100; place += 10) {
            zero.addPart(0, place, 5000, 0);
            less.addPart(0, place, 5000, 0);
        }
        zero.set(8, 0);
        Checks.row("kind with a level of 0", n -> zero.event(n, 4), 8, 0, 0, 1, Checks.INVALID);
        zero.set(8, 1);
        Checks.row("kind with a floor of 1", n -> zero.event(n, 4), 8, 0, 3, Checks.INVALID);
        less.set(8, 0);
        Checks.row("kind with a level of -100", n -> less.event(n, 4), 8, 0, 3, Checks.INVALID);
    }

    private static void readingStops() {
        Checks.sentence("Reading", "it is the end, and reading stops;");
        FiberTrace x = Checks.flat("splice 10 5000;splice 20 5000;splice 30 5000;splice 40 5000;");
        x.set(8, 40000);
        Checks.due("events", x.events(), 3);
        Checks.due("the end", x.event(2, 4), 3);
        Checks.row("eventAt", x::eventAt, 29, NONE, 2, NONE);
        Checks.due("eventAt of 40", x.eventAt(40), NONE);
    }

    /** A rise of 60 is no more than S, but at least R. */
    private static void nextEvent() {
        Checks.sentence("Reading", "otherwise it goes on with x = y + 1.");
        FiberTrace x = with(6, 10, "splice 60 300;splice 61 -60;");
        Checks.row("event(0)", what -> x.event(0, what), 0, 60, 60, 300, 0, 0, 0);
        Checks.row("event(1)", what -> x.event(1, what), 0, 61, 61, -60, 60, 1, 0);
        Checks.due("events", x.events(), 3);
    }

    /** Seven connectors whose ghosts have places of their own, all at multiples of 3: 28 reflective events. */
    private static FiberTrace manyEvents(int splices) {
        FiberTrace x = Checks.flat("");
        x.set(2, 0);
        x.set(9, 0);
        for (int place : CONNECTORS) {
            x.addPart(1, place, 0, 3000);
        }
        for (int i = 0; i < splices; i++) {
            x.addPart(0, 120 + 3 * i, 300, 0);
        }
        return x;
    }

    private static TreeSet<Integer> reflectionPlaces() {
        TreeSet<Integer> places = new TreeSet<>();
        for (int p : CONNECTORS) {
            places.add(p);
            for (int q : CONNECTORS) {
                places.add(q > p ? 2 * q - p : p);
            }
        }
        return places;
    }

    private static void thirtyEvents() {
        Checks.sentence("Reading", "At most 30 events are found;");
        Checks.sentence("16", "Returns the number of events.");
        Checks.due("without an event", Checks.dark().events(), 0);
        Checks.due("the end alone", Checks.flat("").events(), 1);
        Checks.due("28 and the end", manyEvents(0).events(), 29);
        Checks.due("29 and the end", manyEvents(1).events(), 30);
        Checks.due("the end is the 30th", manyEvents(1).event(29, 4), 3);
        FiberTrace x = manyEvents(1);
        int event = 0;
        for (int place : reflectionPlaces()) {
            Checks.due("begin of " + event, x.event(event, 0), place);
            Checks.due("end of " + event, x.event(event, 1), place + 1);
            event++;
        }
        Checks.due("reflections", event, 28);
    }

    private static void behindTheThirtieth() {
        Checks.sentence("Reading", "reading stops behind the 30th.");
        for (int splices = 2; splices <= 3; splices++) {
            FiberTrace x = manyEvents(splices);
            Checks.due("events", x.events(), 30);
            Checks.due("the 30th", x.event(29, 0), 123);
            Checks.due("a 31st", x.event(30, 0), Checks.INVALID);
            Checks.due("the end is not found", x.total(7), 0);
            Checks.due("its place", x.eventAt(200), NONE);
            Checks.due("the fall to the 30th", x.total(6), 600);
        }
    }

    private static void numbersOfEvents() {
        Checks.sentence("Reading", "Events are numbered from 0.");
        FiberTrace x = Checks.flat("splice 60 300;splice 80 300;");
        Checks.row("begin", n -> x.event(n, 0), -1, Checks.INVALID, 60, 80, 200, Checks.INVALID);
        Checks.due("eventAt", x.eventAt(60), 0);
    }

    private static void sections() {
        Checks.sentence("Reading", "The section ahead of an event is what lies between"
                + " the end of the event before (or the place 0) and its begin;");
        Checks.sentence("Reading", "its loss is v(that end) - v(begin - 1).");
        FiberTrace x = Checks.laid("attenuation 7;end 0;splice 60 305;splice 100 300;");
        Checks.row("section", n -> x.event(n, 5), 0, 59 * 7, 35 * 7, 95 * 7, Checks.INVALID);
        Checks.row("loss", n -> x.event(n, 2), 0, 305 + 35, 300 + 35, 50000 - 605 - 199 * 7 - 5000);
        FiberTrace noisy = new FiberTrace();
        noisy.set(3, 37);
        noisy.set(4, 1);
        noisy.set(5, 0);
        noisy.set(7, 2000);
        Checks.due("v(0) is 50037", noisy.sample(0, 0), 50037);
        Checks.due("from the place 0", noisy.event(0, 5), 50037 - noisy.sample(199, 0));
    }

    private static void sectionsWithoutPlaces() {
        Checks.sentence("Reading", "v(that end) - v(begin - 1)");
        Checks.due("ahead of the place 1", Checks.flat("splice 1 300;").event(0, 5), 0);
        Checks.due("of neighbours", with(6, 10, "splice 60 300;splice 61 -60;").event(1, 5), 0);
        FiberTrace x = Checks.laid("attenuation 7;end 0;splice 2 305;");
        Checks.due("of one unit", x.event(0, 5), 7);
    }

    private static void sumsAddUp() {
        Checks.sentence("Reading", "(So the losses of all events and of all sections ahead of them add up to"
                + " v(0) - v(end of the last event).)");
        FiberTrace[] all = {new FiberTrace(), Checks.dark(), Checks.flat("splice 1 300;"), manyEvents(0), manyEvents(3),
            with(6, 10, "splice 60 300;splice 61 -60;"), Checks.laid("attenuation 50;connector 199 5000 20000;")};
        for (FiberTrace x : all) {
            int losses = 0;
            int last = 0;
            for (int n = 0; n < x.events(); n++) {
                losses += x.event(n, 2) + x.event(n, 5);
                last = x.event(n, 1);
            }
            Checks.due("sum", losses, x.sample(0, 0) - x.sample(last, 0));
            Checks.due("totals", x.total(0) + x.total(1), losses);
            Checks.due("total(6)", x.total(6), losses);
        }
    }

    /** Reflective events at 40 and 60, whose ghost would be at 80, and what stands there. */
    private static FiberTrace ghostly(String parts) {
        return Checks.flat("connector 40 0 3000;connector 60 0 3000;" + parts);
    }

    private static int kindWith(int ghostLoss, String parts) {
        FiberTrace x = ghostly(parts);
        x.set(10, ghostLoss);
        return x.event(2, 4);
    }

    private static void lossOfAGhost() {
        Checks.sentence("Reading", "is a ghost if |its loss| is at most Q");
        for (int loss : new int[] {0, 1, 150, 500, 2000}) {
            String parts = "connector 80 " + loss + " 3000;";
            Checks.due("kind with a loss of " + loss, kindWith(loss, parts), 2);
            if (loss > 0) {
                Checks.due("kind with a loss of Q + 1", kindWith(loss - 1, parts), 1);
            }
        }
        Checks.due("kind with a loss above the greatest Q", kindWith(2000, "connector 80 2001 3000;"), 1);
        Checks.due("kind with a gain", kindWith(500, "connector 80 0 3000;splice 81 -500;"), 2);
        Checks.due("kind with a gain of Q + 1", kindWith(499, "connector 80 0 3000;splice 81 -500;"), 1);
    }

    /** Two losses ahead leave 40000; the third one of 1 is below the floor. */
    private static void endIsNoGhost() {
        Checks.sentence("Reading", "A reflective event that is not the end is a ghost");
        for (int loss = 0; loss < 2; loss++) {
            FiberTrace x = Checks.flat("");
            x.addPart(0, 10, 5000, 0);
            x.addPart(0, 20, 5000, 0);
            x.addPart(1, 40, 0, 3000);
            x.addPart(1, 60, 0, 3000);
            x.addPart(1, 80, loss, 3000);
            x.set(8, 40000);
            Checks.due("begin", x.event(4, 0), 80);
            Checks.due("height", x.event(4, 3), 3000 - loss);
            Checks.due("kind with a loss of " + loss, x.event(4, 4), loss == 0 ? 2 : 3);
            Checks.due("maker with a loss of " + loss, x.event(4, 6), loss == 0 ? 2 : NONE);
        }
    }

    private static int kindNear(int tolerance, int event, String parts) {
        return with(9, tolerance, parts).event(event, 4);
    }

    private static void twoReflectiveEvents() {
        Checks.sentence("Reading", "there are two earlier reflective events, i before j,");
        Checks.due("two", kindNear(0, 2, "connector 40 0 3000;connector 60 0 3000;connector 80 0 3000;"), 2);
        Checks.due("i is plain", kindNear(0, 2, "splice 40 300;connector 60 0 3000;connector 80 0 3000;"), 1);
        Checks.due("j is plain", kindNear(0, 2, "connector 40 0 3000;splice 60 300;connector 80 0 3000;"), 1);
        Checks.due("one, near enough", kindNear(20, 1, "connector 40 0 3000;connector 55 0 3000;"), 1);
        Checks.due("a plain one", kindNear(0, 2, "connector 40 0 3000;connector 60 0 3000;splice 80 300;"), 0);
        Checks.due("it is j itself", kindNear(20, 1, "connector 40 0 3000;connector 50 0 3000;"), 1);
    }

    /** 2 * 80 - 60 is 100, but 2 * 60 - 40 is 80, and 2 * 80 - 40 is 120. */
    private static void ghostsMakeNone() {
        Checks.sentence("Reading", "that are no ghosts");
        String ahead = "connector 40 0 3000;connector 60 0 3000;connector 80 ";
        FiberTrace ghost = Checks.flat(ahead + "150 3000;connector 100 0 3000;");
        Checks.row("kind", n -> ghost.event(n, 4), 0, 1, 1, 2, 1, 3);
        FiberTrace none = Checks.flat(ahead + "151 3000;connector 100 0 3000;");
        Checks.row("kind", n -> none.event(n, 4), 0, 1, 1, 1, 2, 3);
        Checks.due("first maker", none.event(3, 6), 1);
        Checks.due("second maker", none.event(3, 7), 2);
    }

    private static void toleranceOfGhosts() {
        Checks.sentence("Reading", "2 * (begin of j) - (begin of i) differs by at most T from its begin");
        for (int tolerance : new int[] {0, 1, 3, 16}) {
            for (int side = -1; side <= 1; side += 2) {
                for (int more = 0; more < 2; more++) {
                    int place = 80 + side * (tolerance + more);
                    FiberTrace x = ghostly("connector " + place + " 0 3000;");
                    x.set(9, tolerance);
                    Checks.due("begin", x.event(2, 0), place);
                    Checks.due("kind at " + place + " with T " + tolerance, x.event(2, 4), 2 - more);
                }
            }
        }
        Checks.due("the greatest T", kindNear(20, 2, "connector 40 0 3000;connector 60 0 3000;connector 100 0 3000;"), 2);
        Checks.due("a greater distance", kindNear(20, 2, "connector 40 0 3000;connector 60 0 3000;connector 101 0 3000;"), 1);
    }

    private static void makersAre(FiberTrace x, int event, int first, int second) {
        Checks.due("kind", x.event(event, 4), 2);
        Checks.due("first maker", x.event(event, 6), first);
        Checks.due("second maker", x.event(event, 7), second);
    }

    /** 2 * 70 - 20 and 2 * 80 - 40 are both 120. */
    private static void makersWithTheLeastI() {
        Checks.sentence("Reading", "its makers are, of all such pairs, the one with the least i");
        FiberTrace x = Checks.flat("connector 20 0 3000;connector 40 0 3000;connector 70 0 3000;connector 80 0 3000;");
        x.addPart(1, 120, 0, 3000);
        makersAre(x, 4, 0, 2);
        x.removePart(0);
        makersAre(x, 3, 0, 2);
        x.addPart(0, 20, 300, 0);
        makersAre(x, 4, 1, 3);
    }

    /** 2 * 60 - 20 is 100, and 2 * 64 - 20 is 108. */
    private static void makersWithTheLeastJ() {
        Checks.sentence("Reading", "then with the least j.");
        FiberTrace x = Checks.flat("connector 20 0 3000;connector 60 0 3000;connector 64 0 3000;connector 104 0 3000;");
        x.set(9, 4);
        makersAre(x, 3, 0, 1);
        x.set(9, 3);
        Checks.due("kind", x.event(3, 4), 1);
    }

    private static void eventCounts() {
        Checks.sentence("17", "- `event`: number of the event");
        for (int splices = 0; splices <= 2; splices++) {
            FiberTrace x = manyEvents(splices);
            Checks.onlyWithin("event", n -> x.event(n, 0), 0, Math.min(28 + splices, 29));
        }
        Checks.due("of none", Checks.dark().event(0, 0), Checks.INVALID);
    }

    private static void eventArguments() {
        Checks.sentence("17", "INVALID_ARGUMENT if an argument is out of range");
        FiberTrace x = ghostly("");
        x.set(2, 0);
        Checks.onlyWithin("what of a ghost", what -> x.event(2, what), 0, 7);
        Checks.onlyWithin("what of the end", what -> x.event(3, what), 0, 7);
        for (int what = -1; what <= 8; what++) {
            Checks.due("event(-1, " + what + ")", x.event(-1, what), Checks.INVALID);
            Checks.due("event(4, " + what + ")", x.event(4, what), Checks.INVALID);
        }
    }

    private static void eventKinds() {
        Checks.sentence("17", "4: 0 if it is plain, 1 if it is reflective, 2 if it is a ghost, 3 if it is the end");
        FiberTrace x = ghostly("splice 90 300;");
        x.set(2, 0);
        Checks.row("kind", n -> x.event(n, 4), 0, 1, 1, 2, 0, 3, Checks.INVALID);
    }

    private static void eventMakers() {
        Checks.sentence("17", "NOT_FOUND for 6 and 7 if it is no ghost.");
        FiberTrace x = ghostly("splice 90 300;");
        x.set(2, 0);
        Checks.row("first maker", n -> x.event(n, 6), 0, NONE, NONE, 0, NONE, NONE);
        Checks.row("second maker", n -> x.event(n, 7), 0, NONE, NONE, 1, NONE, NONE);
    }

    private static void totals() {
        Checks.sentence("18", "2: the losses of ghosts; 3, 4 and 5: how many events event() tells as 0, 1 and 2");
        FiberTrace x = ghostly("connector 80 100 3000;splice 90 300;connector 100 0 3000;");
        Checks.row("total", x::total, 0, 45000, 0, 100, 1, 3, 1, 45000, 1);
        FiberTrace y = Checks.laid("connector 40 0 12000;connector 60 0 12000;splice 82 -200;");
        Checks.due("ghosts with a gain of 10", y.total(2), 7 * 10 - 200);
        Checks.due("ghosts", y.total(5), 1);
        FiberTrace many = manyEvents(0);
        Checks.row("total", many::total, 2, 0, 0, 7, 21);
    }

    /** Nothing of the ghost, nor of the end behind it, is left when there are fewer events. */
    private static void totalsOfFewerEvents() {
        Checks.sentence("18", "0: the losses of all events; 1: the losses of all sections ahead of them");
        FiberTrace x = ghostly("connector 80 100 3000;");
        Checks.row("total", x::total, 0, 45000, 0, 100, 0, 2, 1, 45000, 1);
        x.removePart(2);
        x.removePart(0);
        Checks.row("total", x::total, 0, 45000, 0, 0, 0, 1, 0, 45000, 1);
        x.removePart(0);
        Checks.row("total", x::total, 0, 45000, 0, 0, 0, 0, 0, 45000, 1);
        FiberTrace y = Checks.laid("splice 60 300;");
        y.set(2, 40000);
        Checks.due("sections", y.total(1), 59 * 10 + 135 * 10);
        y.removePart(0);
        Checks.due("the only section", y.total(1), 1990);
    }

    private static void totalsWithoutEvents() {
        Checks.sentence("18", "6: v(0) minus v(end of the last event), 0 without events");
        Checks.row("total", Checks.dark()::total, 0, 0, 0, 0, 0, 0, 0, 0, 0);
        Checks.due("of the end alone", Checks.flat("").total(6), 45000);
        Checks.due("up to a rise", Checks.laid("attenuation 0;end 19000;").total(6), 45000);
    }

    private static void totalOfTheEnd() {
        Checks.sentence("18", "7: 1 if the end is found, otherwise 0");
        FiberTrace x = Checks.flat("");
        x.set(8, 5001);
        Checks.due("a level below the floor", x.total(7), 1);
        Checks.due("plain events", x.total(3), 0);
        x.set(8, 5000);
        Checks.due("a level of the floor", x.total(7), 0);
        Checks.due("plain events", x.total(3), 1);
    }

    private static void wrongTotals() {
        Checks.sentence("18", "INVALID_ARGUMENT if what is out of range.");
        FiberTrace x = new FiberTrace();
        Checks.onlyWithin("what", x::total, 0, 7);
        Checks.onlyWithin("what without events", Checks.dark()::total, 0, 7);
    }

    private static void placesOfEvents() {
        Checks.sentence("19", "Returns the event that lies at a place, from its begin to its end.");
        FiberTrace x = ghostly("splice 81 300;");
        x.set(2, 0);
        Checks.row("eventAt", x::eventAt, 39, NONE, 0, 0, NONE);
        Checks.row("eventAt", x::eventAt, 59, NONE, 1, 1, NONE);
        Checks.row("eventAt of a ghost", x::eventAt, 79, NONE, 2, 2, NONE);
        Checks.row("eventAt of the end", x::eventAt, 199, NONE, 3, NONE);
        FiberTrace y = with(6, 10, "splice 60 300;splice 61 -60;");
        Checks.row("eventAt of neighbours", y::eventAt, 59, NONE, 0, 1, NONE);
    }

    private static void wrongPlacesOfEvents() {
        Checks.sentence("19", "`place`: 0 to length + 59");
        Checks.sentence("19", "INVALID_ARGUMENT if place is out of range");
        for (int length : new int[] {50, 200, 400}) {
            FiberTrace x = Checks.laid("length " + length + ";");
            Checks.onlyWithin("place", x::eventAt, 0, length + 59);
        }
    }

    private static void placesWithoutEvents() {
        Checks.sentence("19", "NOT_FOUND if there is none.");
        FiberTrace x = Checks.dark();
        for (int place = 0; place < 260; place++) {
            Checks.due("place " + place, x.eventAt(place), NONE);
        }
        Checks.due("the first place", Checks.flat("splice 1 300;").eventAt(0), NONE);
    }

    private static void worstEvent() {
        Checks.sentence("20", "Returns the event with the greatest loss (the end not counted)");
        Checks.due("not the end", Checks.flat("splice 60 300;").worst(), 0);
        Checks.due("one of 301", Checks.flat("splice 60 300;splice 80 301;").worst(), 1);
        Checks.due("a gain", Checks.flat("connector 60 0 5000;splice 61 -500;").worst(), 0);
        Checks.due("the least gain", Checks.flat("connector 60 0 5000;splice 61 -500;connector 80 0 5000;splice 81 -499;").worst(), 1);
        FiberTrace ghost = ghostly("connector 80 100 3000;");
        Checks.due("a ghost counts", ghost.worst(), 2);
        Checks.due("it is one", ghost.event(2, 4), 2);
    }

    private static void worstOfSeveral() {
        Checks.sentence("20", "of several the first one");
        Checks.due("300 three times", Checks.flat("splice 60 300;splice 80 300;splice 90 300;").worst(), 0);
        Checks.due("301 twice", Checks.flat("splice 60 300;splice 80 301;splice 90 301;").worst(), 1);
    }

    private static void worstOfNone() {
        Checks.sentence("20", "NOT_FOUND if there is no event but the end.");
        Checks.due("the end alone", Checks.flat("").worst(), NONE);
        Checks.due("no event", Checks.dark().worst(), NONE);
        FiberTrace x = Checks.flat("");
        x.set(8, 5000);
        Checks.due("the same event, as a plain one", x.worst(), 0);
    }
}
